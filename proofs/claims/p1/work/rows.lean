section
-- ===== PART A: goes FIRST, ahead of the names: the tables' words, and 'selects' of the private methods out of them =====
/-- a private method of a class that the tables say can be made, by its rows of tables_1 -/
def lw_okq (q : MethodName × Nat) : Prop := (q.1.cls ≠ "java/lang/invoke/MethodHandle" ∧ q.1.cls ≠ "java/lang/invoke/VarHandle") ∧ Cond.instantiable q.1.cls q.2 ∈ tables_1 ∧ Cond.privateMethod q.1 ∈ tables_1 ∧ Cond.instanceMethod q.1 ∈ tables_1
theorem lw_p0 : lw_okq (⟨"java/lang/Throwable", "fillInStackTrace", "(I)Ljava/lang/Throwable;"⟩, 6) := ⟨⟨by decide +kernel, by decide +kernel⟩, List.mem_of_getElem? (i := 412) (by decide +kernel), List.mem_of_getElem? (i := 410) (by decide +kernel), List.mem_of_getElem? (i := 411) (by decide +kernel)⟩
theorem lw_p1 : lw_okq (⟨"CachehallDesk$Cache", "isKeptBy", "(II)Z"⟩, 15) := ⟨⟨by decide +kernel, by decide +kernel⟩, List.mem_of_getElem? (i := 171) (by decide +kernel), List.mem_of_getElem? (i := 511) (by decide +kernel), List.mem_of_getElem? (i := 512) (by decide +kernel)⟩
theorem lw_p2 : lw_okq (⟨"CachehallDesk$Builder", "attempt", "(II)Z"⟩, 9) := ⟨⟨by decide +kernel, by decide +kernel⟩, List.mem_of_getElem? (i := 42) (by decide +kernel), List.mem_of_getElem? (i := 531) (by decide +kernel), List.mem_of_getElem? (i := 532) (by decide +kernel)⟩
theorem lw_p3 : lw_okq (⟨"CachehallDesk$Builder", "obtain", "(II)Z"⟩, 9) := ⟨⟨by decide +kernel, by decide +kernel⟩, List.mem_of_getElem? (i := 42) (by decide +kernel), List.mem_of_getElem? (i := 541) (by decide +kernel), List.mem_of_getElem? (i := 542) (by decide +kernel)⟩
theorem lw_p4 : lw_okq (⟨"CachehallDesk$Cache", "hasPrints", "(ILCachehallDesk$Got;I)Z"⟩, 15) := ⟨⟨by decide +kernel, by decide +kernel⟩, List.mem_of_getElem? (i := 171) (by decide +kernel), List.mem_of_getElem? (i := 558) (by decide +kernel), List.mem_of_getElem? (i := 559) (by decide +kernel)⟩
theorem lw_p5 : lw_okq (⟨"CachehallDesk$Crew", "isBetter", "(II)Z"⟩, 6) := ⟨⟨by decide +kernel, by decide +kernel⟩, List.mem_of_getElem? (i := 108) (by decide +kernel), List.mem_of_getElem? (i := 566) (by decide +kernel), List.mem_of_getElem? (i := 567) (by decide +kernel)⟩
theorem lw_p6 : lw_okq (⟨"CachehallDesk$Builder", "enter", "(IIII)Z"⟩, 9) := ⟨⟨by decide +kernel, by decide +kernel⟩, List.mem_of_getElem? (i := 42) (by decide +kernel), List.mem_of_getElem? (i := 575) (by decide +kernel), List.mem_of_getElem? (i := 576) (by decide +kernel)⟩
theorem lw_p7 : lw_okq (⟨"CachehallDesk$Cache", "leastWorth", "(I)I"⟩, 15) := ⟨⟨by decide +kernel, by decide +kernel⟩, List.mem_of_getElem? (i := 171) (by decide +kernel), List.mem_of_getElem? (i := 589) (by decide +kernel), List.mem_of_getElem? (i := 590) (by decide +kernel)⟩
theorem lw_p8 : lw_okq (⟨"CachehallDesk$Builder", "isCheckDue", "()Z"⟩, 9) := ⟨⟨by decide +kernel, by decide +kernel⟩, List.mem_of_getElem? (i := 42) (by decide +kernel), List.mem_of_getElem? (i := 602) (by decide +kernel), List.mem_of_getElem? (i := 603) (by decide +kernel)⟩
theorem lw_p9 : lw_okq (⟨"CachehallDesk$Builder", "compareWithRun", "(II)I"⟩, 9) := ⟨⟨by decide +kernel, by decide +kernel⟩, List.mem_of_getElem? (i := 42) (by decide +kernel), List.mem_of_getElem? (i := 607) (by decide +kernel), List.mem_of_getElem? (i := 608) (by decide +kernel)⟩
theorem lw_p10 : lw_okq (⟨"CachehallDeskModel", "refuse", "(I)I"⟩, 3) := ⟨⟨by decide +kernel, by decide +kernel⟩, List.mem_of_getElem? (i := 831) (by decide +kernel), List.mem_of_getElem? (i := 934) (by decide +kernel), List.mem_of_getElem? (i := 935) (by decide +kernel)⟩
theorem lw_p11 : lw_okq (⟨"java/util/ArrayList", "add", "(Ljava/lang/Object;[Ljava/lang/Object;I)V"⟩, 3) := ⟨⟨by decide +kernel, by decide +kernel⟩, List.mem_of_getElem? (i := 843) (by decide +kernel), List.mem_of_getElem? (i := 988) (by decide +kernel), List.mem_of_getElem? (i := 989) (by decide +kernel)⟩
theorem lw_p12 : lw_okq (⟨"java/util/ArrayList", "grow", "()[Ljava/lang/Object;"⟩, 3) := ⟨⟨by decide +kernel, by decide +kernel⟩, List.mem_of_getElem? (i := 843) (by decide +kernel), List.mem_of_getElem? (i := 992) (by decide +kernel), List.mem_of_getElem? (i := 993) (by decide +kernel)⟩
theorem lw_p13 : lw_okq (⟨"java/util/ArrayList", "grow", "(I)[Ljava/lang/Object;"⟩, 3) := ⟨⟨by decide +kernel, by decide +kernel⟩, List.mem_of_getElem? (i := 843) (by decide +kernel), List.mem_of_getElem? (i := 996) (by decide +kernel), List.mem_of_getElem? (i := 997) (by decide +kernel)⟩
theorem lw_p14 : lw_okq (⟨"CachehallDeskModel", "isAction", "(I)Z"⟩, 3) := ⟨⟨by decide +kernel, by decide +kernel⟩, List.mem_of_getElem? (i := 831) (by decide +kernel), List.mem_of_getElem? (i := 1057) (by decide +kernel), List.mem_of_getElem? (i := 1058) (by decide +kernel)⟩
theorem lw_p15 : lw_okq (⟨"CachehallDeskModel", "ofActionNow", "(II)I"⟩, 3) := ⟨⟨by decide +kernel, by decide +kernel⟩, List.mem_of_getElem? (i := 831) (by decide +kernel), List.mem_of_getElem? (i := 1061) (by decide +kernel), List.mem_of_getElem? (i := 1062) (by decide +kernel)⟩
def lw_privs_1 : List (MethodName × Nat) := [(⟨"java/lang/Throwable", "fillInStackTrace", "(I)Ljava/lang/Throwable;"⟩, 6), (⟨"CachehallDesk$Cache", "isKeptBy", "(II)Z"⟩, 15), (⟨"CachehallDesk$Builder", "attempt", "(II)Z"⟩, 9), (⟨"CachehallDesk$Builder", "obtain", "(II)Z"⟩, 9), (⟨"CachehallDesk$Cache", "hasPrints", "(ILCachehallDesk$Got;I)Z"⟩, 15), (⟨"CachehallDesk$Crew", "isBetter", "(II)Z"⟩, 6), (⟨"CachehallDesk$Builder", "enter", "(IIII)Z"⟩, 9), (⟨"CachehallDesk$Cache", "leastWorth", "(I)I"⟩, 15), (⟨"CachehallDesk$Builder", "isCheckDue", "()Z"⟩, 9), (⟨"CachehallDesk$Builder", "compareWithRun", "(II)I"⟩, 9), (⟨"CachehallDeskModel", "refuse", "(I)I"⟩, 3), (⟨"java/util/ArrayList", "add", "(Ljava/lang/Object;[Ljava/lang/Object;I)V"⟩, 3), (⟨"java/util/ArrayList", "grow", "()[Ljava/lang/Object;"⟩, 3), (⟨"java/util/ArrayList", "grow", "(I)[Ljava/lang/Object;"⟩, 3), (⟨"CachehallDeskModel", "isAction", "(I)Z"⟩, 3), (⟨"CachehallDeskModel", "ofActionNow", "(II)I"⟩, 3)]
theorem lw_r1 : ∀ q ∈ lw_privs_1, lw_okq q := List.forall_mem_cons.mpr ⟨lw_p0, List.forall_mem_cons.mpr ⟨lw_p1, List.forall_mem_cons.mpr ⟨lw_p2, List.forall_mem_cons.mpr ⟨lw_p3, List.forall_mem_cons.mpr ⟨lw_p4, List.forall_mem_cons.mpr ⟨lw_p5, List.forall_mem_cons.mpr ⟨lw_p6, List.forall_mem_cons.mpr ⟨lw_p7, List.forall_mem_cons.mpr ⟨lw_p8, List.forall_mem_cons.mpr ⟨lw_p9, List.forall_mem_cons.mpr ⟨lw_p10, List.forall_mem_cons.mpr ⟨lw_p11, List.forall_mem_cons.mpr ⟨lw_p12, List.forall_mem_cons.mpr ⟨lw_p13, List.forall_mem_cons.mpr ⟨lw_p14, List.forall_mem_cons.mpr ⟨lw_p15, fun _ h => absurd h List.not_mem_nil⟩⟩⟩⟩⟩⟩⟩⟩⟩⟩⟩⟩⟩⟩⟩⟩
theorem lw_p16 : lw_okq (⟨"CachehallDeskModel$Hall", "read", "(LCachehallDeskModel$Action;[I[I)LCachehallDeskModel$Reading;"⟩, 9) := ⟨⟨by decide +kernel, by decide +kernel⟩, List.mem_of_getElem? (i := 837) (by decide +kernel), List.mem_of_getElem? (i := 1092) (by decide +kernel), List.mem_of_getElem? (i := 1093) (by decide +kernel)⟩
theorem lw_p17 : lw_okq (⟨"CachehallDeskModel$Hall", "print", "(LCachehallDeskModel$Action;LCachehallDeskModel$Reading;)I"⟩, 9) := ⟨⟨by decide +kernel, by decide +kernel⟩, List.mem_of_getElem? (i := 837) (by decide +kernel), List.mem_of_getElem? (i := 1126) (by decide +kernel), List.mem_of_getElem? (i := 1127) (by decide +kernel)⟩
theorem lw_p18 : lw_okq (⟨"CachehallDeskModel", "kept", "(II)I"⟩, 3) := ⟨⟨by decide +kernel, by decide +kernel⟩, List.mem_of_getElem? (i := 831) (by decide +kernel), List.mem_of_getElem? (i := 1130) (by decide +kernel), List.mem_of_getElem? (i := 1131) (by decide +kernel)⟩
theorem lw_p19 : lw_okq (⟨"CachehallDeskModel", "isWorker", "(I)Z"⟩, 3) := ⟨⟨by decide +kernel, by decide +kernel⟩, List.mem_of_getElem? (i := 831) (by decide +kernel), List.mem_of_getElem? (i := 1217) (by decide +kernel), List.mem_of_getElem? (i := 1218) (by decide +kernel)⟩
theorem lw_p20 : lw_okq (⟨"CachehallDeskModel", "ofWorkerNow", "(II)I"⟩, 3) := ⟨⟨by decide +kernel, by decide +kernel⟩, List.mem_of_getElem? (i := 831) (by decide +kernel), List.mem_of_getElem? (i := 1221) (by decide +kernel), List.mem_of_getElem? (i := 1222) (by decide +kernel)⟩
theorem lw_p21 : lw_okq (⟨"CachehallDeskModel", "isTeam", "(I)Z"⟩, 3) := ⟨⟨by decide +kernel, by decide +kernel⟩, List.mem_of_getElem? (i := 831) (by decide +kernel), List.mem_of_getElem? (i := 1256) (by decide +kernel), List.mem_of_getElem? (i := 1257) (by decide +kernel)⟩
theorem lw_p22 : lw_okq (⟨"CachehallDeskModel$Hall", "shrink", "(II)I"⟩, 9) := ⟨⟨by decide +kernel, by decide +kernel⟩, List.mem_of_getElem? (i := 837) (by decide +kernel), List.mem_of_getElem? (i := 1260) (by decide +kernel), List.mem_of_getElem? (i := 1261) (by decide +kernel)⟩
theorem lw_p23 : lw_okq (⟨"CachehallDeskModel$Hall", "uses", "(I)I"⟩, 9) := ⟨⟨by decide +kernel, by decide +kernel⟩, List.mem_of_getElem? (i := 837) (by decide +kernel), List.mem_of_getElem? (i := 1264) (by decide +kernel), List.mem_of_getElem? (i := 1265) (by decide +kernel)⟩
theorem lw_p24 : lw_okq (⟨"CachehallDeskModel", "ofTeamNow", "(II)I"⟩, 3) := ⟨⟨by decide +kernel, by decide +kernel⟩, List.mem_of_getElem? (i := 831) (by decide +kernel), List.mem_of_getElem? (i := 1282) (by decide +kernel), List.mem_of_getElem? (i := 1283) (by decide +kernel)⟩
theorem lw_p25 : lw_okq (⟨"CachehallDeskModel$Hall", "got", "(ILCachehallDeskModel$Action;LCachehallDeskModel$Reading;)I"⟩, 9) := ⟨⟨by decide +kernel, by decide +kernel⟩, List.mem_of_getElem? (i := 837) (by decide +kernel), List.mem_of_getElem? (i := 1358) (by decide +kernel), List.mem_of_getElem? (i := 1359) (by decide +kernel)⟩
theorem lw_p26 : lw_okq (⟨"CachehallDeskModel$Hall", "chosen", "(I)I"⟩, 9) := ⟨⟨by decide +kernel, by decide +kernel⟩, List.mem_of_getElem? (i := 837) (by decide +kernel), List.mem_of_getElem? (i := 1372) (by decide +kernel), List.mem_of_getElem? (i := 1373) (by decide +kernel)⟩
theorem lw_p27 : lw_okq (⟨"CachehallDeskModel$Hall", "run", "(ILCachehallDeskModel$Action;LCachehallDeskModel$Reading;)I"⟩, 9) := ⟨⟨by decide +kernel, by decide +kernel⟩, List.mem_of_getElem? (i := 837) (by decide +kernel), List.mem_of_getElem? (i := 1376) (by decide +kernel), List.mem_of_getElem? (i := 1377) (by decide +kernel)⟩
theorem lw_p28 : lw_okq (⟨"CachehallDeskModel$Hall", "isAdded", "(LCachehallDeskModel$Entry;)Z"⟩, 9) := ⟨⟨by decide +kernel, by decide +kernel⟩, List.mem_of_getElem? (i := 837) (by decide +kernel), List.mem_of_getElem? (i := 1389) (by decide +kernel), List.mem_of_getElem? (i := 1390) (by decide +kernel)⟩
theorem lw_p29 : lw_okq (⟨"CachehallDeskModel", "isEntry", "(I)Z"⟩, 3) := ⟨⟨by decide +kernel, by decide +kernel⟩, List.mem_of_getElem? (i := 831) (by decide +kernel), List.mem_of_getElem? (i := 1403) (by decide +kernel), List.mem_of_getElem? (i := 1404) (by decide +kernel)⟩
theorem lw_p30 : lw_okq (⟨"CachehallDeskModel", "isOther", "(LCachehallDeskModel$Entry;)Z"⟩, 3) := ⟨⟨by decide +kernel, by decide +kernel⟩, List.mem_of_getElem? (i := 831) (by decide +kernel), List.mem_of_getElem? (i := 1407) (by decide +kernel), List.mem_of_getElem? (i := 1408) (by decide +kernel)⟩
theorem lw_p31 : lw_okq (⟨"CachehallDeskModel", "ofEntryNow", "(II)I"⟩, 3) := ⟨⟨by decide +kernel, by decide +kernel⟩, List.mem_of_getElem? (i := 831) (by decide +kernel), List.mem_of_getElem? (i := 1418) (by decide +kernel), List.mem_of_getElem? (i := 1419) (by decide +kernel)⟩
def lw_privs_2 : List (MethodName × Nat) := [(⟨"CachehallDeskModel$Hall", "read", "(LCachehallDeskModel$Action;[I[I)LCachehallDeskModel$Reading;"⟩, 9), (⟨"CachehallDeskModel$Hall", "print", "(LCachehallDeskModel$Action;LCachehallDeskModel$Reading;)I"⟩, 9), (⟨"CachehallDeskModel", "kept", "(II)I"⟩, 3), (⟨"CachehallDeskModel", "isWorker", "(I)Z"⟩, 3), (⟨"CachehallDeskModel", "ofWorkerNow", "(II)I"⟩, 3), (⟨"CachehallDeskModel", "isTeam", "(I)Z"⟩, 3), (⟨"CachehallDeskModel$Hall", "shrink", "(II)I"⟩, 9), (⟨"CachehallDeskModel$Hall", "uses", "(I)I"⟩, 9), (⟨"CachehallDeskModel", "ofTeamNow", "(II)I"⟩, 3), (⟨"CachehallDeskModel$Hall", "got", "(ILCachehallDeskModel$Action;LCachehallDeskModel$Reading;)I"⟩, 9), (⟨"CachehallDeskModel$Hall", "chosen", "(I)I"⟩, 9), (⟨"CachehallDeskModel$Hall", "run", "(ILCachehallDeskModel$Action;LCachehallDeskModel$Reading;)I"⟩, 9), (⟨"CachehallDeskModel$Hall", "isAdded", "(LCachehallDeskModel$Entry;)Z"⟩, 9), (⟨"CachehallDeskModel", "isEntry", "(I)Z"⟩, 3), (⟨"CachehallDeskModel", "isOther", "(LCachehallDeskModel$Entry;)Z"⟩, 3), (⟨"CachehallDeskModel", "ofEntryNow", "(II)I"⟩, 3)]
theorem lw_r2 : ∀ q ∈ lw_privs_2, lw_okq q := List.forall_mem_cons.mpr ⟨lw_p16, List.forall_mem_cons.mpr ⟨lw_p17, List.forall_mem_cons.mpr ⟨lw_p18, List.forall_mem_cons.mpr ⟨lw_p19, List.forall_mem_cons.mpr ⟨lw_p20, List.forall_mem_cons.mpr ⟨lw_p21, List.forall_mem_cons.mpr ⟨lw_p22, List.forall_mem_cons.mpr ⟨lw_p23, List.forall_mem_cons.mpr ⟨lw_p24, List.forall_mem_cons.mpr ⟨lw_p25, List.forall_mem_cons.mpr ⟨lw_p26, List.forall_mem_cons.mpr ⟨lw_p27, List.forall_mem_cons.mpr ⟨lw_p28, List.forall_mem_cons.mpr ⟨lw_p29, List.forall_mem_cons.mpr ⟨lw_p30, List.forall_mem_cons.mpr ⟨lw_p31, fun _ h => absurd h List.not_mem_nil⟩⟩⟩⟩⟩⟩⟩⟩⟩⟩⟩⟩⟩⟩⟩⟩
theorem lw_p32 : lw_okq (⟨"CachehallDeskModel", "manyNow", "(I)I"⟩, 3) := ⟨⟨by decide +kernel, by decide +kernel⟩, List.mem_of_getElem? (i := 831) (by decide +kernel), List.mem_of_getElem? (i := 1432) (by decide +kernel), List.mem_of_getElem? (i := 1433) (by decide +kernel)⟩
theorem lw_p33 : lw_okq (⟨"CachehallDeskModel", "wouldRunNow", "(II)I"⟩, 3) := ⟨⟨by decide +kernel, by decide +kernel⟩, List.mem_of_getElem? (i := 831) (by decide +kernel), List.mem_of_getElem? (i := 1448) (by decide +kernel), List.mem_of_getElem? (i := 1449) (by decide +kernel)⟩
theorem lw_p34 : lw_okq (⟨"CachehallDeskModel", "touchedNow", "(I)I"⟩, 3) := ⟨⟨by decide +kernel, by decide +kernel⟩, List.mem_of_getElem? (i := 831) (by decide +kernel), List.mem_of_getElem? (i := 1460) (by decide +kernel), List.mem_of_getElem? (i := 1461) (by decide +kernel)⟩
theorem lw_p35 : lw_okq (⟨"CachehallDeskModel", "add", "(I)V"⟩, 3) := ⟨⟨by decide +kernel, by decide +kernel⟩, List.mem_of_getElem? (i := 831) (by decide +kernel), List.mem_of_getElem? (i := 1473) (by decide +kernel), List.mem_of_getElem? (i := 1474) (by decide +kernel)⟩
def lw_privs_3 : List (MethodName × Nat) := [(⟨"CachehallDeskModel", "manyNow", "(I)I"⟩, 3), (⟨"CachehallDeskModel", "wouldRunNow", "(II)I"⟩, 3), (⟨"CachehallDeskModel", "touchedNow", "(I)I"⟩, 3), (⟨"CachehallDeskModel", "add", "(I)V"⟩, 3)]
theorem lw_r3 : ∀ q ∈ lw_privs_3, lw_okq q := List.forall_mem_cons.mpr ⟨lw_p32, List.forall_mem_cons.mpr ⟨lw_p33, List.forall_mem_cons.mpr ⟨lw_p34, List.forall_mem_cons.mpr ⟨lw_p35, fun _ h => absurd h List.not_mem_nil⟩⟩⟩⟩
def lw_privs : List (MethodName × Nat) := lw_privs_1 ++ (lw_privs_2 ++ (lw_privs_3))
def lw_tbl : List Cond := k2_sels lw_privs ++ tables_1
theorem lw_privs_ok : ∀ q ∈ lw_privs, lw_okq q := by
  show ∀ q ∈ lw_privs_1 ++ (lw_privs_2 ++ (lw_privs_3)), lw_okq q
  exact List.forall_mem_append.mpr ⟨lw_r1, List.forall_mem_append.mpr ⟨lw_r2, lw_r3⟩⟩
/-- the streams that the claim lets the run draw from -/
abbrev lw_cs : List Choice := [Jvm.Choice.named "NaN.bits"]
theorem lw_bits : nanBits ∈ lw_cs := by first | decide | exact List.mem_cons_self | simp [lw_cs, nanBits]
-- ===== end of PART A; then your names; then what follows =====
/-! ===== BEGIN words of one list among another's, by their places ===== -/
theorem goodIn_r {big : List Cond} (ws : List Cond) (ps : List Nat) (hp : ws = ps.filterMap (fun i => big[i]?)) (h : ws.all goodWord = true) : GoodIn big ws := by
  intro w hw
  have h1 := List.all_eq_true.mp h w hw
  rw [hp] at hw
  obtain ⟨i, -, hi⟩ := List.mem_filterMap.mp hw
  have hm : w ∈ big := by first | exact List.mem_of_getElem? hi | exact List.getElem?_mem hi
  exact ⟨hm, good_of_word h1⟩
theorem goodIn_app {big a b : List Cond} (ha : GoodIn big a) (hb : GoodIn big b) : GoodIn big (a ++ b) := fun w h => (List.mem_append.mp h).elim (ha w) (hb w)
theorem goodIn_ca {big a b : List Cond} {c : Cond} (ha : GoodIn big (c :: a)) (hb : GoodIn big b) : GoodIn big (c :: (a ++ b)) := fun w h => (List.mem_cons.mp h).elim (fun e => ha w (List.mem_cons.mpr (Or.inl e))) (fun h => (List.mem_append.mp h).elim (fun h => ha w (List.mem_cons.mpr (Or.inr h))) (hb w))
theorem goodIn_sub {big ws : List Cond} (hm : ∀ w ∈ ws, w ∈ big) (h : ws.all goodWord = true) : GoodIn big ws := fun w hw => ⟨hm w hw, good_of_word (List.all_eq_true.mp h w hw)⟩
/-! ===== END ===== -/

/-! ===== BEGIN exceptions that leave a method, and their catching by the caller (launches without stack traces) ===== -/
section VXA
/-! The laws vx_back, vx_callV, vx_callS, vx_callSW, vx_throw0, vx_throwS follow proofs of the library, with one case more: JvmDerived/Free/Laws.lean (Back.of_free), Shelf42/LK1.lean (callV, callS), Shelf/KitTraced.lean (throwNew0V, throwNewS). -/
/-- where a method has thrown q: the class by its name, the cell, what was written, the world -/
def vx_T (XC : String → State → State → Prop) (st : State) (q : Addr) (t : State) (mc ms : Nat) (free : Addr → Prop) : Prop :=
  ∃ (E : String) (ce : Cell) (L : List Loc), XC E st t ∧ t.heap[q]? = some ce ∧ ce.vm = .none ∧ st.vm.findClass E = some ce.cls ∧ st.WarmedH t.vm ∧ st.sameButNew ({ t with vm := st.vm } : State) L mc ms ∧ ∀ z ∈ L, free z.base
def vx_Q (Qc : Array Value → State → Outcome → State → Prop) (XC : String → State → State → Prop) (mc ms : Nat) (free : Addr → Prop) : Array Value → State → Outcome → State → Prop := fun a st o t =>
  (Qc a st o t ∧ ∃ L, FrameEnd st o t L mc ms ∧ ∀ q ∈ L, free q.base) ∨ ∃ q, o = .threw q ∧ vx_T XC st q t mc ms free
/-- a callee that returns or throws -/
def vx_Met (l : Launch) (y : MethodName) (ws : List Cond) (rm : Room) (Pc : Array Value → State → Prop) (Qc : Array Value → State → Outcome → State → Prop) (XC : String → State → State → Prop) (mc ms : Nat) (free : Addr → Prop) : Prop :=
  MetFree l y (headSpec ws rm) Pc (fun _ _ _ _ _ => True) (vx_Q Qc XC mc ms free)
def vx_Post (XC : String → State → State → Prop) (mc ms : Nat) (free : Addr → Prop) : Pt → Array Value → Addr → Pt → Prop := fun A a q B =>
  ∃ (g : JFrame) (mk : MethodId) (t : State) (L : List Loc) (E : String) (ce : Cell), B.U.heap = t.heap ∧ B.U.vm = t.vm ∧ XC E (A.U.calling g mk a) t ∧ t.heap[q]? = some ce ∧ ce.vm = .none ∧ A.U.vm.findClass E = some ce.cls ∧ B.locs = A.locs ++ L ∧ (∀ z ∈ L, free z.base) ∧ B.cells = A.cells + mc ∧ B.slots = A.slots + ms
def vx_Back (l : Launch) (R : Room) (p : Program) (e : Env) (below : List Frame) (s : State) (sargs : Array Value) (y : MethodName) (len W9 : Nat)
    (Pre : Pt → Array Value → Prop) (Post : Pt → Array Value → Option Value → Pt → Prop) (PostX : Pt → Array Value → Addr → Pt → Prop) : Prop :=
  ∀ (m : MethodId) (meth : Method) (c : Code) (A : Pt) (g : JFrame) (ig : Instr) (mk : MethodId) (a : Array Value),
    Stand p l e R s m sargs below meth c A.U A.locs A.cells A.slots → g.method = m → g.locals.size = c.maxLocals → decode c.code g.pc = .ok (ig, len) →
    2 * g.monitorRoom + (g.stack.map fun v => v.category).sum ≤ W9 → A.U.methodNamed? y = some mk → Pre A a →
    (∃ (v : Option Value) (B : Pt), Stand p l e R s m sargs below meth c B.U B.locs B.cells B.slots ∧ Post A a v B ∧
      Steps p.tables e below (doInvoke e (A.U.setTop g) [] mk a).1 (B.U.setTop { g with pc := g.pc + len, stack := v.toList ++ g.stack })) ∨
    (∃ (q : Addr) (B : Pt), Stand p l e R s m sargs below meth c B.U B.locs B.cells B.slots ∧ PostX A a q B ∧
      Steps p.tables e below (doInvoke e (A.U.setTop g) [] mk a).1 ((B.U.setTop g).pushFrame (.throwing q)))
section Payer
variable {l : Launch} {R : Room} {p : Program} {e : Env} {below : List Frame} {s : State} {sargs : Array Value} {y : MethodName} {len W9 : Nat}
theorem vx_back {ws : List Cond} {rm : Room} {Pc : Array Value → State → Prop} {Qc : Array Value → State → Outcome → State → Prop} {XC : String → State → State → Prop} {mc ms : Nat} {free : Addr → Prop} {bytes : ByteArray} {maxL : Nat} {ret : Option FieldType}
    (hM : vx_Met l y ws rm Pc Qc XC mc ms free) (hblind : FrameBlind Pc) (hrc : rm.cells = mc) (hrs : rm.slots = ms)
    (hframes : rm.frames + 1 ≤ R.frames) (hlocals : W9 + (maxL + 11) + rm.locals ≤ R.locals)
    (hws : ∀ w ∈ ws, ∀ a' U, s.WarmedH U.vm → w.before a' U = true) (hcode : Cond.code y bytes maxL ret ∈ ws) (hinit : ∀ a' U, s.WarmedH U.vm → (Cond.initialized y.cls).before a' U = true) :
    vx_Back l R p e below s sargs y len W9 (PreOf R mc ms Pc) (PostOf Qc mc ms free) (vx_Post XC mc ms free) := by
  intro m meth c A g ig mk a X hg hsize hdg hW hn hp
  have h1 : (headSpec ws rm).pre.before a A.U = true := atoms_intro fun w hw => hws w hw _ _ X.warmed
  have h2 : (Cond.code y bytes maxL ret).before a A.U = true := hws _ hcode _ _ X.warmed
  have h3 : (Cond.initialized y.cls).before a A.U = true := hinit _ _ X.warmed
  have h4 : A.cells + (headSpec ws rm).room.cells ≤ R.cells := by rw [show (headSpec ws rm).room.cells = mc from hrc]; exact hp.1
  have h5 : A.slots + (headSpec ws rm).room.slots ≤ R.slots := by rw [show (headSpec ws rm).room.slots = ms from hrs]; exact hp.2.1
  have hPc : Pc a (A.U.calling g mk a) := hblind _ _ _ _ hp.2.2
  obtain ⟨U, Ls, c0, s0⟩ := A
  dsimp only [Pt.U, Pt.locs, Pt.cells, Pt.slots] at h1 h2 h3 h4 h5 X hn hPc ⊢
  obtain ⟨methY, cY, hmY, hcY, -, hlY, -, -, -, -⟩ := Cond.code_spec hn h2
  obtain ⟨kY, hkY, -⟩ := className_of_methodNamed hn
  have hinitY : kY.init = .initialized := Cond.initialized_spec (findClass_of_methodNamed hn) hkY h3
  have h : At U g.method c below := by rw [hg]; exact X.here
  have hlocals9 : W9 + (maxL + 11) + (headSpec ws rm).room.locals ≤ R.locals := hlocals
  have happ : (headSpec ws rm).appliesLoose y e.platform (U.calling g mk a) = true :=
    Spec.appliesLoose_calling (g := g) h hdg hn hkY hinitY
      (X.room_calling (g := g) (R' := (headSpec ws rm).room) hsize hmY hcY hframes (by rw [hlY]; omega) h4 h5) h1
  obtain ⟨mid, hmid⟩ := h.above
  have hfr : (U.setTop g).frames = (.java g :: mid) ++ below := by rw [State.frames_setTop' g h.top, hmid]; rfl
  obtain ⟨o, s₂, hsteps, -, hend, hq⟩ := Steps.callFree hM p X.admits X.cas X.clock (acts := []) hfr happ hPc trivial
  have hq' : vx_Q Qc XC mc ms free a (U.calling g mk a) o s₂ := hq
  rw [State.frames_setTop' g h.top] at hend
  obtain ⟨g₀, hg0⟩ := Option.isSome_iff_exists.mp h.top
  obtain ⟨r, hr⟩ := State.topJava?_eq_some.mp hg0
  have hr' : (({ U with heap := s₂.heap, slotsUsed := s₂.slotsUsed } : State).setVm s₂.vm).frames = .java g₀ :: r := hr
  rcases hq' with ⟨hqc, L, hfe, hL⟩ | ⟨q, rfl, E, ce, L, hx, hce, hcv, hcl, hW₂, hsm, hL⟩
  · obtain ⟨⟨v, rfl⟩, hW₂, e2, q2, q3, q4, q5, q6⟩ := id hfe
    have e3 : s₂ = ({ (U.calling g mk a).setFrames s₂.frames with heap := s₂.heap, slotsUsed := s₂.slotsUsed } : State).setVm s₂.vm := by
      have : s₂ = ({ s₂ with vm := (U.calling g mk a).vm } : State).setVm s₂.vm := rfl
      rw [e2] at this
      exact this
    obtain ⟨c₂, i₂, len₂, hc₂, hd₂, hf₂⟩ := hend
    have hW' : U.WarmedH s₂.vm := hW₂
    have hcc : c₂ = c := by
      have h1 : s₂.code? g.method = U.code? g.method := by
        rw [State.code?_eq, State.code?_eq, hW'.alike.method?]
      exact Option.some.inj (hc₂.symm.trans (h1.trans h.code))
    subst hcc
    have hlen : len₂ = len := by rw [hdg] at hd₂; cases hd₂; rfl
    subst hlen
    have hs₂ : s₂ = (({ U with heap := s₂.heap, slotsUsed := s₂.slotsUsed } : State).setVm s₂.vm).setTop { g with pc := g.pc + len₂, stack := v.toList ++ g.stack } := by
      refine e3.trans ?_
      rw [hf₂, State.calling_eq h.top, State.setFrames_setFrames, State.setTop_of_frames _ hr', hr]
      rfl
    have hsame : U.sameButNew ({ U with heap := s₂.heap, slotsUsed := s₂.slotsUsed } : State) L mc ms := by
      refine ⟨?_, q2, q3, q4, q5, q6⟩
      obtain ⟨t, ht, -⟩ := State.frames_cons hr
      show ({ U with heap := s₂.heap, slotsUsed := s₂.slotsUsed } : State) = { U.setFrames U.frames with heap := s₂.heap, slotsUsed := s₂.slotsUsed }
      rw [State.setFrames_self ht]
    subst hg
    refine Or.inl ⟨v, ⟨(({ U with heap := s₂.heap, slotsUsed := s₂.slotsUsed } : State).setVm s₂.vm), Ls ++ L, c0 + mc, s0 + ms⟩,
      ⟨X.admits, X.cas, X.clock, X.frames, X.room, X.hears, X.method, X.code, (X.here.setHeapUsed s₂.heap s₂.slotsUsed).setVm hW'.alike, X.tail, State.WarmedH.trans X.warmed hW', X.limits, X.bytes, X.same.trans (hsame.setVm s.vm)⟩,
      ⟨g, mk, s₂, L, rfl, rfl, hqc, rfl, hL, rfl, rfl⟩, ?_⟩
    show Steps p.tables e below _ ((({ U with heap := s₂.heap, slotsUsed := s₂.slotsUsed } : State).setVm s₂.vm).setTop { g with pc := g.pc + len₂, stack := v.toList ++ g.stack })
    rw [← hs₂]
    exact hsteps
  · obtain ⟨e2, q2, q3, q4, q5, q6⟩ := id hsm
    have e3 : s₂ = ({ (U.calling g mk a).setFrames s₂.frames with heap := s₂.heap, slotsUsed := s₂.slotsUsed } : State).setVm s₂.vm := by
      have : s₂ = ({ s₂ with vm := (U.calling g mk a).vm } : State).setVm s₂.vm := rfl
      rw [e2] at this
      exact this
    have hf₂ : s₂.frames = .throwing q :: .java g :: U.frames.tail := hend
    have hW' : U.WarmedH s₂.vm := hW₂
    have hs₂ : s₂ = ((({ U with heap := s₂.heap, slotsUsed := s₂.slotsUsed } : State).setVm s₂.vm).setTop g).pushFrame (.throwing q) := by
      refine e3.trans ?_
      rw [hf₂, State.calling_eq h.top, State.setFrames_setFrames, State.pushFrame, State.frames_setTop _ hr', State.setTop_of_frames _ hr', State.setFrames_setFrames, hr]
      rfl
    have hsame : U.sameButNew ({ U with heap := s₂.heap, slotsUsed := s₂.slotsUsed } : State) L mc ms := by
      refine ⟨?_, q2, q3, q4, q5, q6⟩
      obtain ⟨t, ht, -⟩ := State.frames_cons hr
      show ({ U with heap := s₂.heap, slotsUsed := s₂.slotsUsed } : State) = { U.setFrames U.frames with heap := s₂.heap, slotsUsed := s₂.slotsUsed }
      rw [State.setFrames_self ht]
    subst hg
    refine Or.inr ⟨q, ⟨(({ U with heap := s₂.heap, slotsUsed := s₂.slotsUsed } : State).setVm s₂.vm), Ls ++ L, c0 + mc, s0 + ms⟩,
      ⟨X.admits, X.cas, X.clock, X.frames, X.room, X.hears, X.method, X.code, (X.here.setHeapUsed s₂.heap s₂.slotsUsed).setVm hW'.alike, X.tail, State.WarmedH.trans X.warmed hW', X.limits, X.bytes, X.same.trans (hsame.setVm s.vm)⟩,
      ⟨g, mk, s₂, L, E, ce, rfl, rfl, hx, hce, hcv, hcl, rfl, hL, rfl, rfl⟩, ?_⟩
    show Steps p.tables e below _ (((({ U with heap := s₂.heap, slotsUsed := s₂.slotsUsed } : State).setVm s₂.vm).setTop g).pushFrame (.throwing q))
    rw [← hs₂]
    exact hsteps
end Payer
section Calls
variable {p : Program} {l : Launch} {e : Env} {R : Room} {s : State} {m : MethodId} {args : Array Value} {below : List Frame} {meth : Method} {c : Code} {T : State} {locs : List Loc} {cells slots : Nat}
theorem vx_callV (X : Stand p l e R s m args below meth c T locs cells slots) (hexec : p.tables.exec = Jvm.exec) {own C : String} {index : Nat} {y : MethodName} {bytes : ByteArray} {maxL : Nat} {ret : Option FieldType}
    (hown : s.vm.findClass own = some m.cls) (hlink : (Cond.methodLink own index y).before args s = true) (hinst : (Cond.instanceMethod y).before args s = true) (hsel : (Cond.selects C y y).before args s = true)
    (hcode : (Cond.code y bytes maxL ret).before args s = true) (hy : y.cls ≠ "java/lang/invoke/MethodHandle" ∧ y.cls ≠ "java/lang/invoke/VarHandle")
    {W9 : Nat} {Pre : Pt → Array Value → Prop} {Post : Pt → Array Value → Option Value → Pt → Prop} {PostX : Pt → Array Value → Addr → Pt → Prop} (hK : vx_Back l R p e below s args y 3 W9 Pre Post PostX)
    {b : Addr} {cellB : Cell} (hcell : T.heap[b]? = some cellB) (hobj : cellB.vm.isStatics = false) (hcls : s.vm.findClass C = some cellB.cls)
    {g : JFrame} (hg : g.method = m) (hsize : g.locals.size = c.maxLocals) {argsL rest : List Value} (hlen : ∀ sig, parseMethodDescriptor y.desc = some sig → argsL.length = sig.parameters.length)
    (hstack : g.stack = argsL.reverse ++ .ref b :: rest) (hW : 2 * g.monitorRoom + (rest.map fun v => v.category).sum ≤ W9) (hdg : decode c.code g.pc = .ok (.invokevirtual index, 3))
    (hpre : ∀ vm₁, s.WarmedH vm₁ → Pre ⟨T.setVm vm₁, locs, cells, slots⟩ (Value.ref b :: argsL).toArray) :
    (∃ (v : Option Value) (vm₁ : Vm) (B : Pt), s.WarmedH vm₁ ∧ Stand p l e R s m args below meth c B.U B.locs B.cells B.slots ∧ Post ⟨T.setVm vm₁, locs, cells, slots⟩ (Value.ref b :: argsL).toArray v B ∧
      ∀ target, Steps p.tables e below (B.U.setTop { g with pc := g.pc + 3, stack := v.toList ++ rest }) target → Steps p.tables e below (T.setTop g) target) ∨
    (∃ (q : Addr) (vm₁ : Vm) (B : Pt), s.WarmedH vm₁ ∧ Stand p l e R s m args below meth c B.U B.locs B.cells B.slots ∧ PostX ⟨T.setVm vm₁, locs, cells, slots⟩ (Value.ref b :: argsL).toArray q B ∧
      Steps p.tables e below (T.setTop g) ((B.U.setTop { g with stack := rest }).pushFrame (.throwing q))) := by
  obtain ⟨mk, methM, hnamed, hmethM, hstM, habM⟩ := Cond.instanceMethod_spec hinst
  obtain ⟨methM', cM, hmethM', -, -, -, -, -, -, hsigM⟩ := Cond.code_spec hnamed hcode
  cases hmethM.symm.trans hmethM'
  obtain ⟨c2, r2, m2, q1, q2, q3, q4, kP, hkP, hkPi⟩ := Cond.selects_spec hsel
  cases hcls.symm.trans q1
  cases (State.methodFound?_of_named hnamed hy).symm.trans q2
  cases hnamed.symm.trans q3
  have hselP : selectMethod e.platform s.vm cellB.cls mk = .method mk := by rw [Launch.admits_selectMethod X.admits]; exact q4
  obtain ⟨vm₁, X₁, hstep₁⟩ := X.invokevirtual hexec hown hlink hnamed hmethM hstM hkP hkPi hy (a := b) (cell := cellB) hcell
    (fun z h => by rw [h] at hobj; cases hobj) hselP hmethM habM hkP hkPi (g := g) hg (argsL := argsL) (rest := rest) (hlen _ hsigM) hstack hdg
  rcases hK m meth c ⟨T.setVm vm₁, locs, cells, slots⟩ { g with stack := rest } (.invokevirtual index) mk (Value.ref b :: argsL).toArray X₁ hg hsize hdg hW (X₁.named hnamed) (hpre vm₁ X₁.warmed) with ⟨v, B, X', hpost, hsteps⟩ | ⟨q, B, X', hpost, hsteps⟩
  · exact Or.inl ⟨v, vm₁, B, X₁.warmed, X', hpost, fun target h => hstep₁ _ fun acts => by rw [doInvoke_state]; exact hsteps.trans h⟩
  · exact Or.inr ⟨q, vm₁, B, X₁.warmed, X', hpost, hstep₁ _ fun acts => by rw [doInvoke_state]; exact hsteps⟩
theorem vx_callS (X : Stand p l e R s m args below meth c T locs cells slots) (hexec : p.tables.exec = Jvm.exec) {own : String} {index : Nat} {y : MethodName} {bytes : ByteArray} {maxL : Nat} {ret : Option FieldType}
    (hown : s.vm.findClass own = some m.cls) (hlink : (Cond.methodLink own index y).before args s = true) (hstat : (Cond.static y).before args s = true) (hinit : (Cond.initialized y.cls).before args s = true)
    (hcode : (Cond.code y bytes maxL ret).before args s = true) (hy : y.cls ≠ "java/lang/invoke/MethodHandle" ∧ y.cls ≠ "java/lang/invoke/VarHandle")
    {W9 : Nat} {Pre : Pt → Array Value → Prop} {Post : Pt → Array Value → Option Value → Pt → Prop} {PostX : Pt → Array Value → Addr → Pt → Prop} (hK : vx_Back l R p e below s args y 3 W9 Pre Post PostX)
    {g : JFrame} (hg : g.method = m) (hsize : g.locals.size = c.maxLocals) {argsL rest : List Value} (hlen : ∀ sig, parseMethodDescriptor y.desc = some sig → argsL.length = sig.parameters.length)
    (hstack : g.stack = argsL.reverse ++ rest) (hW : 2 * g.monitorRoom + (rest.map fun v => v.category).sum ≤ W9) (hdg : decode c.code g.pc = .ok (.invokestatic index, 3))
    (hpre : ∀ vm₁, s.WarmedH vm₁ → Pre ⟨T.setVm vm₁, locs, cells, slots⟩ argsL.toArray) :
    (∃ (v : Option Value) (vm₁ : Vm) (B : Pt), s.WarmedH vm₁ ∧ Stand p l e R s m args below meth c B.U B.locs B.cells B.slots ∧ Post ⟨T.setVm vm₁, locs, cells, slots⟩ argsL.toArray v B ∧
      ∀ target, Steps p.tables e below (B.U.setTop { g with pc := g.pc + 3, stack := v.toList ++ rest }) target → Steps p.tables e below (T.setTop g) target) ∨
    (∃ (q : Addr) (vm₁ : Vm) (B : Pt), s.WarmedH vm₁ ∧ Stand p l e R s m args below meth c B.U B.locs B.cells B.slots ∧ PostX ⟨T.setVm vm₁, locs, cells, slots⟩ argsL.toArray q B ∧
      Steps p.tables e below (T.setTop g) ((B.U.setTop { g with stack := rest }).pushFrame (.throwing q))) := by
  obtain ⟨mk, hnamed⟩ := Cond.code_named hcode
  obtain ⟨methM, cM, hmethM, -, -, -, -, -, -, hsigM⟩ := Cond.code_spec hnamed hcode
  have hstatic : methM.isStatic = true := Cond.static_spec hnamed hmethM hstat
  obtain ⟨kP, hkP, -⟩ := className_of_methodNamed hnamed
  have hinitP : kP.init = .initialized := Cond.initialized_spec (findClass_of_methodNamed hnamed) hkP hinit
  obtain ⟨vm₁, X₁, hstep₁⟩ := X.invokestatic hexec hown hlink hnamed hmethM hstatic hkP hinitP hy (g := g) hg (argsL := argsL) (rest := rest) (hlen _ hsigM) hstack hdg
  rcases hK m meth c ⟨T.setVm vm₁, locs, cells, slots⟩ { g with stack := rest } (.invokestatic index) mk argsL.toArray X₁ hg hsize hdg hW (X₁.named hnamed) (hpre vm₁ X₁.warmed) with ⟨v, B, X', hpost, hsteps⟩ | ⟨q, B, X', hpost, hsteps⟩
  · exact Or.inl ⟨v, vm₁, B, X₁.warmed, X', hpost, fun target h => hstep₁ _ fun acts => by rw [doInvoke_state]; exact hsteps.trans h⟩
  · exact Or.inr ⟨q, vm₁, B, X₁.warmed, X', hpost, hstep₁ _ fun acts => by rw [doInvoke_state]; exact hsteps⟩
end Calls
theorem vx_cls {s : State} {T : State} {vm₁ : Vm} {E : String} {k : ClassId} (hW : s.WarmedH vm₁) (h : (T.setVm vm₁).vm.findClass E = some k) : s.vm.findClass E = some k := by
  have h1 : vm₁.findClass E = some k := h
  rw [hW.alike.findClass] at h1
  exact h1
/-- the method's frame g, with q thrown over it -/
def vx_W (p : Program) (l : Launch) (e : Env) (R : Room) (s : State) (m : MethodId) (args : Array Value) (below : List Frame) (meth : Method) (c : Code) (H : Heap) (locs : List Loc) (cells slots : Nat) (Q : State → Prop) (g : JFrame) (q : Addr) : Prop :=
  ∀ T : State, T.heap = H → Stand p l e R s m args below meth c T locs cells slots → ∃ t, Steps p.tables e below ((T.setTop g).pushFrame (.throwing q)) t ∧ Q t
def vx_Run (p : Program) (l : Launch) (e : Env) (R : Room) (s : State) (m : MethodId) (args : Array Value) (below : List Frame) (meth : Method) (c : Code) (H : Heap) (locs : List Loc) (cells slots mc ms : Nat) (g : JFrame) (rest : List Value) (Qa : State → Outcome → State → Prop) (XC : String → State → State → Prop) (free : Addr → Prop) : Prop :=
  ∀ T : State, T.heap = H → Stand p l e R s m args below meth c T locs cells slots →
    (∃ (v : Option Value) (st₀ t T' : State) (L : List Loc), st₀.heap = H ∧ Stand p l e R s m args below meth c T' (locs ++ L) (cells + mc) (slots + ms) ∧ (∀ q ∈ L, free q.base) ∧ T'.heap = t.heap ∧ T'.vm = t.vm ∧ Qa st₀ (.returned v) t ∧
      Goes p e below T g T' { g with pc := g.pc + 3, stack := v.toList ++ rest }) ∨
    (∃ (q : Addr) (st₀ t T' : State) (L : List Loc) (E : String) (ce : Cell), st₀.heap = H ∧ Stand p l e R s m args below meth c T' (locs ++ L) (cells + mc) (slots + ms) ∧ (∀ z ∈ L, free z.base) ∧ T'.heap = t.heap ∧ T'.vm = t.vm ∧ XC E st₀ t ∧ t.heap[q]? = some ce ∧ ce.vm = .none ∧ s.vm.findClass E = some ce.cls ∧
      Steps p.tables e below (T.setTop g) ((T'.setTop { g with stack := rest }).pushFrame (.throwing q)))
def vx_X {S : Type} (px : S → Prop) (B : String → S → State → Prop) (A : Nat → Prop) : String → State → State → Prop := fun E st t => ∃ u : S, px u ∧ B E u t ∧ va_F A st t
section Runs
variable {p : Program} {l : Launch} {e : Env} {R : Room} {s : State} {m : MethodId} {args : Array Value} {below : List Frame} {meth : Method} {c : Code} {H : Heap} {locs : List Loc} {cells slots : Nat}
variable {y : MethodName} {bytes cc : ByteArray} {maxL nL mc ms n index : Nat} {ret : Option FieldType} {ws : List Cond} {rm : Room} {Pc : Array Value → State → Prop} {Qc : Array Value → State → Outcome → State → Prop} {XC : String → State → State → Prop} {free : Addr → Prop} {Ts : List Cond} {own C : String} {b : Addr} {As rest : List Value} {g : JFrame}
theorem vx_callBack (cb : CallB R s args own index y bytes maxL ret ws rm mc ms n) (hM : vx_Met l y ws rm Pc Qc XC mc ms free) (hbl : FrameBlind Pc) : vx_Back l R p e below s args y 3 8 (PreOf R mc ms Pc) (PostOf Qc mc ms free) (vx_Post XC mc ms free) := by
  obtain ⟨hrc, hrs, hfr, hlo, hws, hcw, -, hini, -⟩ := cb
  exact vx_back (bytes := bytes) (maxL := maxL) (ret := ret) hM hbl hrc hrs hfr hlo hws hcw (fun a' U hW => word_at hW (Or.inl (by first | rfl | simp [Cond.onTables, Cond.keeps, Cond.steady])) hini)
theorem vx_runV (S : CallFix p m c cc nL s args Ts own) (hM : vx_Met l y ws rm Pc Qc XC mc ms free) (cw : CallW R s args own C index y bytes maxL ret ws rm mc ms n) (hp : PreV s H C b Pc As)
    (hg : g.method = m) (hn : As.length = n) (hsize : g.locals.size = nL) (hstack : g.stack = As.reverse ++ .ref b :: rest) (hW : 2 * g.monitorRoom + (rest.map fun v => v.category).sum ≤ 8) (hdg : decode cc g.pc = .ok (.invokevirtual index, 3)) (hf : cells + mc ≤ R.cells ∧ slots + ms ≤ R.slots) :
    vx_Run p l e R s m args below meth c H locs cells slots mc ms g rest (Qc (Value.ref b :: As).toArray) XC free := by
  have hK : vx_Back l R p e below s args y 3 8 (PreOf R mc ms Pc) (PostOf Qc mc ms free) (vx_Post XC mc ms free) := vx_callBack cw.1 hM hp.1
  obtain ⟨⟨-, -, -, -, -, -, hcode, -, hy, hlen, hl⟩, hin, hse⟩ := cw
  obtain ⟨hx, hb, hml, ho, -⟩ := S
  obtain ⟨-, ⟨cellB, hcB, hoB, hclB⟩, hPc⟩ := hp
  intro T hT X
  rcases vx_callV X hx (C := C) (bytes := bytes) (maxL := maxL) (ret := ret) ho hl hin hse hcode hy hK (by rw [hT]; exact hcB) hoB hclB hg (hsize.trans hml.symm) (argsL := As) (rest := rest) (fun sig h => hn.trans (hlen sig h)) hstack hW (by rw [hb]; exact hdg)
    (fun vm₁ hW₁ => ⟨hf.1, hf.2, hPc (T.setVm vm₁) hT hW₁⟩) with ⟨v, vm₁, ⟨U', l2, c2, s2⟩, hW₁, X', ⟨g', mk, t, L, e1, e2, hq, h1, hL, h2, h3⟩, st⟩ | ⟨q, vm₁, ⟨U', l2, c2, s2⟩, hW₁, X', ⟨g', mk, t, L, E, ce, e1, e2, hq, hce, hcv, hcl, h1, hL, h2, h3⟩, st⟩
  · dsimp only [Pt.U, Pt.locs, Pt.cells, Pt.slots] at X' e1 e2 h1 h2 h3 st
    subst h1; subst h2; subst h3
    exact Or.inl ⟨v, (T.setVm vm₁).calling g' mk (Value.ref b :: As).toArray, t, U', L, hT, X', hL, e1, e2, hq, st⟩
  · dsimp only [Pt.U, Pt.locs, Pt.cells, Pt.slots] at X' e1 e2 h1 h2 h3 st hcl
    subst h1; subst h2; subst h3
    exact Or.inr ⟨q, (T.setVm vm₁).calling g' mk (Value.ref b :: As).toArray, t, U', L, E, ce, hT, X', hL, e1, e2, hq, hce, hcv, vx_cls hW₁ hcl, st⟩
theorem vx_runS (S : CallFix p m c cc nL s args Ts own) (hM : vx_Met l y ws rm Pc Qc XC mc ms free) (cw : CallB R s args own index y bytes maxL ret ws rm mc ms n ∧ (Cond.static y).before args s = true) (hp : PreS s H Pc As)
    (hg : g.method = m) (hn : As.length = n) (hsize : g.locals.size = nL) (hstack : g.stack = As.reverse ++ rest) (hW : 2 * g.monitorRoom + (rest.map fun v => v.category).sum ≤ 8) (hdg : decode cc g.pc = .ok (.invokestatic index, 3)) (hf : cells + mc ≤ R.cells ∧ slots + ms ≤ R.slots) :
    vx_Run p l e R s m args below meth c H locs cells slots mc ms g rest (Qc As.toArray) XC free := by
  have hK : vx_Back l R p e below s args y 3 8 (PreOf R mc ms Pc) (PostOf Qc mc ms free) (vx_Post XC mc ms free) := vx_callBack cw.1 hM hp.1
  obtain ⟨⟨-, -, -, -, -, -, hcode, hini, hy, hlen, hl⟩, hstt⟩ := cw
  obtain ⟨hx, hb, hml, ho, -⟩ := S
  intro T hT X
  rcases vx_callS X hx (bytes := bytes) (maxL := maxL) (ret := ret) ho hl hstt hini hcode hy hK hg (hsize.trans hml.symm) (argsL := As) (rest := rest) (fun sig h => hn.trans (hlen sig h)) hstack hW (by rw [hb]; exact hdg)
    (fun vm₁ hW₁ => ⟨hf.1, hf.2, hp.2 (T.setVm vm₁) hT hW₁⟩) with ⟨v, vm₁, ⟨U', l2, c2, s2⟩, hW₁, X', ⟨g', mk, t, L, e1, e2, hq, h1, hL, h2, h3⟩, st⟩ | ⟨q, vm₁, ⟨U', l2, c2, s2⟩, hW₁, X', ⟨g', mk, t, L, E, ce, e1, e2, hq, hce, hcv, hcl, h1, hL, h2, h3⟩, st⟩
  · dsimp only [Pt.U, Pt.locs, Pt.cells, Pt.slots] at X' e1 e2 h1 h2 h3 st
    subst h1; subst h2; subst h3
    exact Or.inl ⟨v, (T.setVm vm₁).calling g' mk As.toArray, t, U', L, hT, X', hL, e1, e2, hq, st⟩
  · dsimp only [Pt.U, Pt.locs, Pt.cells, Pt.slots] at X' e1 e2 h1 h2 h3 st hcl
    subst h1; subst h2; subst h3
    exact Or.inr ⟨q, (T.setVm vm₁).calling g' mk As.toArray, t, U', L, E, ce, hT, X', hL, e1, e2, hq, hce, hcv, vx_cls hW₁ hcl, st⟩
end Runs
section Rows
variable {p : Program} {l : Launch} {e : Env} {R : Room} {s : State} {m : MethodId} {args : Array Value} {below : List Frame} {meth : Method} {c : Code} {H : Heap} {locs : List Loc} {cells slots : Nat} {Q : State → Prop}
variable {mc ms : Nat} {free : Addr → Prop} {A0 A1 : Nat → Prop} {H0 : Heap} {a : Array Value} {pc : Nat} {ls : Array Slot} {st0 rest : List Value}
theorem vx_keep {st₀ t T' : State} {L : List Loc} (h0 : st₀.heap = H) (e1 : T'.heap = t.heap) (hS : va_S A0 H0 H locs) (hA : ∀ q, q < H.size → A1 q → A0 q) (hf : ∀ q, free q → A0 q) (hL : ∀ q ∈ L, free q.base) (hF : va_F A1 st₀ t) :
    H.size ≤ T'.heap.size ∧ (∀ q : Nat, q < H.size → ¬ A1 q → T'.heap[q]? = H[q]?) ∧ va_S A0 H0 T'.heap (locs ++ L) := by
  obtain ⟨hz, hk⟩ := hF
  rw [h0] at hz hk
  exact ⟨by rw [e1]; exact hz, fun q h1 h2 => by rw [e1]; exact hk q h1 h2,
    ⟨Nat.le_trans hS.1 (by rw [e1]; exact hz), fun q h1 h2 => by rw [e1, hk q (Nat.lt_of_lt_of_le h1 hS.1) (fun z => h2 (hA q (Nat.lt_of_lt_of_le h1 hS.1) z))]; exact hS.2.1 q h1 h2, fun q hq => by
      rcases List.mem_append.mp hq with h | h
      · exact hS.2.2 q h
      · exact hf _ (hL q h)⟩⟩
theorem vx_calli {S SX : Type} {post : Int32 → S → Prop} {px : SX → Prop} {B : S → State → Prop} {BX : String → SX → State → Prop} {AX : Nat → Prop} (hr : vx_Run p l e R s m args below meth c H locs cells slots mc ms (F0 m pc ls st0) rest (va_Qi post B A1 a) (vx_X px BX AX) free) (hS : va_S A0 H0 H locs) (hA : ∀ q, q < H.size → A1 q → A0 q) (hf : ∀ q, free q → A0 q) (hAX : ∀ q, q < H.size → AX q → A0 q)
    (kx : ∀ (E : String) (ce : Cell) (q9 : Addr) (u : SX) (t : State) (H1 : Heap) (locs1 : List Loc), t.heap = H1 → s.vm.Alike t.vm → px u → BX E u t → H.size ≤ H1.size → (∀ q : Nat, q < H.size → ¬ AX q → H1[q]? = H[q]?) → va_S A0 H0 H1 locs1 → H1[q9]? = some ce → ce.vm = .none → s.vm.findClass E = some ce.cls → vx_W p l e R s m args below meth c H1 locs1 (cells + mc) (slots + ms) Q (F0 m pc ls rest) q9)
    (kk : ∀ (r : Int32) (u : S) (t : State) (H1 : Heap) (locs1 : List Loc), t.heap = H1 → s.vm.Alike t.vm → post r u → B u t → H.size ≤ H1.size → (∀ q : Nat, q < H.size → ¬ A1 q → H1[q]? = H[q]?) → va_S A0 H0 H1 locs1 → W p l e R s m args below meth c H1 locs1 (cells + mc) (slots + ms) Q (F0 m (pc + 3) ls (.int r :: rest))) : W p l e R s m args below meth c H locs cells slots Q (F0 m pc ls st0) := by
  intro T hT X
  rcases hr T hT X with ⟨v, st₀, t, T', L, h0, X', hL, e1, e2, ⟨⟨r, u, hv, hp, hb⟩, hF⟩, st⟩ | ⟨q, st₀, t, T', L, E, ce, h0, X', hL, e1, e2, ⟨u, hp, hb, hF⟩, hce, hcv, hcl, st⟩
  · cases hv
    obtain ⟨k1, k2, k3⟩ := vx_keep h0 e1 hS hA hf hL hF
    obtain ⟨t2, a1, b1⟩ := kk r u t T'.heap (locs ++ L) e1.symm (by rw [← e2]; exact X'.warmed.alike) hp hb k1 k2 k3 T' rfl X'
    exact ⟨t2, st t2 a1, b1⟩
  · obtain ⟨k1, k2, k3⟩ := vx_keep h0 e1 hS hAX hf hL hF
    obtain ⟨t2, a1, b1⟩ := kx E ce q u t T'.heap (locs ++ L) e1.symm (by rw [← e2]; exact X'.warmed.alike) hp hb k1 k2 k3 (by rw [e1]; exact hce) hcv hcl T' rfl X'
    exact ⟨t2, st.trans a1, b1⟩
theorem vx_calll {S SX : Type} {post : Int64 → S → Prop} {px : SX → Prop} {B : S → State → Prop} {BX : String → SX → State → Prop} {AX : Nat → Prop} (hr : vx_Run p l e R s m args below meth c H locs cells slots mc ms (F0 m pc ls st0) rest (va_Ql post B A1 a) (vx_X px BX AX) free) (hS : va_S A0 H0 H locs) (hA : ∀ q, q < H.size → A1 q → A0 q) (hf : ∀ q, free q → A0 q) (hAX : ∀ q, q < H.size → AX q → A0 q)
    (kx : ∀ (E : String) (ce : Cell) (q9 : Addr) (u : SX) (t : State) (H1 : Heap) (locs1 : List Loc), t.heap = H1 → s.vm.Alike t.vm → px u → BX E u t → H.size ≤ H1.size → (∀ q : Nat, q < H.size → ¬ AX q → H1[q]? = H[q]?) → va_S A0 H0 H1 locs1 → H1[q9]? = some ce → ce.vm = .none → s.vm.findClass E = some ce.cls → vx_W p l e R s m args below meth c H1 locs1 (cells + mc) (slots + ms) Q (F0 m pc ls rest) q9)
    (kk : ∀ (r : Int64) (u : S) (t : State) (H1 : Heap) (locs1 : List Loc), t.heap = H1 → s.vm.Alike t.vm → post r u → B u t → H.size ≤ H1.size → (∀ q : Nat, q < H.size → ¬ A1 q → H1[q]? = H[q]?) → va_S A0 H0 H1 locs1 → W p l e R s m args below meth c H1 locs1 (cells + mc) (slots + ms) Q (F0 m (pc + 3) ls (.long r :: rest))) : W p l e R s m args below meth c H locs cells slots Q (F0 m pc ls st0) := by
  intro T hT X
  rcases hr T hT X with ⟨v, st₀, t, T', L, h0, X', hL, e1, e2, ⟨⟨r, u, hv, hp, hb⟩, hF⟩, st⟩ | ⟨q, st₀, t, T', L, E, ce, h0, X', hL, e1, e2, ⟨u, hp, hb, hF⟩, hce, hcv, hcl, st⟩
  · cases hv
    obtain ⟨k1, k2, k3⟩ := vx_keep h0 e1 hS hA hf hL hF
    obtain ⟨t2, a1, b1⟩ := kk r u t T'.heap (locs ++ L) e1.symm (by rw [← e2]; exact X'.warmed.alike) hp hb k1 k2 k3 T' rfl X'
    exact ⟨t2, st t2 a1, b1⟩
  · obtain ⟨k1, k2, k3⟩ := vx_keep h0 e1 hS hAX hf hL hF
    obtain ⟨t2, a1, b1⟩ := kx E ce q u t T'.heap (locs ++ L) e1.symm (by rw [← e2]; exact X'.warmed.alike) hp hb k1 k2 k3 (by rw [e1]; exact hce) hcv hcl T' rfl X'
    exact ⟨t2, st.trans a1, b1⟩
theorem vx_callf {S SX : Type} {post : UInt32 → S → Prop} {px : SX → Prop} {B : S → State → Prop} {BX : String → SX → State → Prop} {AX : Nat → Prop} (hr : vx_Run p l e R s m args below meth c H locs cells slots mc ms (F0 m pc ls st0) rest (va_Qf post B A1 a) (vx_X px BX AX) free) (hS : va_S A0 H0 H locs) (hA : ∀ q, q < H.size → A1 q → A0 q) (hf : ∀ q, free q → A0 q) (hAX : ∀ q, q < H.size → AX q → A0 q)
    (kx : ∀ (E : String) (ce : Cell) (q9 : Addr) (u : SX) (t : State) (H1 : Heap) (locs1 : List Loc), t.heap = H1 → s.vm.Alike t.vm → px u → BX E u t → H.size ≤ H1.size → (∀ q : Nat, q < H.size → ¬ AX q → H1[q]? = H[q]?) → va_S A0 H0 H1 locs1 → H1[q9]? = some ce → ce.vm = .none → s.vm.findClass E = some ce.cls → vx_W p l e R s m args below meth c H1 locs1 (cells + mc) (slots + ms) Q (F0 m pc ls rest) q9)
    (kk : ∀ (r : UInt32) (u : S) (t : State) (H1 : Heap) (locs1 : List Loc), t.heap = H1 → s.vm.Alike t.vm → post r u → B u t → H.size ≤ H1.size → (∀ q : Nat, q < H.size → ¬ A1 q → H1[q]? = H[q]?) → va_S A0 H0 H1 locs1 → W p l e R s m args below meth c H1 locs1 (cells + mc) (slots + ms) Q (F0 m (pc + 3) ls (.float r :: rest))) : W p l e R s m args below meth c H locs cells slots Q (F0 m pc ls st0) := by
  intro T hT X
  rcases hr T hT X with ⟨v, st₀, t, T', L, h0, X', hL, e1, e2, ⟨⟨r, u, hv, hp, hb⟩, hF⟩, st⟩ | ⟨q, st₀, t, T', L, E, ce, h0, X', hL, e1, e2, ⟨u, hp, hb, hF⟩, hce, hcv, hcl, st⟩
  · cases hv
    obtain ⟨k1, k2, k3⟩ := vx_keep h0 e1 hS hA hf hL hF
    obtain ⟨t2, a1, b1⟩ := kk r u t T'.heap (locs ++ L) e1.symm (by rw [← e2]; exact X'.warmed.alike) hp hb k1 k2 k3 T' rfl X'
    exact ⟨t2, st t2 a1, b1⟩
  · obtain ⟨k1, k2, k3⟩ := vx_keep h0 e1 hS hAX hf hL hF
    obtain ⟨t2, a1, b1⟩ := kx E ce q u t T'.heap (locs ++ L) e1.symm (by rw [← e2]; exact X'.warmed.alike) hp hb k1 k2 k3 (by rw [e1]; exact hce) hcv hcl T' rfl X'
    exact ⟨t2, st.trans a1, b1⟩
theorem vx_calld {S SX : Type} {post : UInt64 → S → Prop} {px : SX → Prop} {B : S → State → Prop} {BX : String → SX → State → Prop} {AX : Nat → Prop} (hr : vx_Run p l e R s m args below meth c H locs cells slots mc ms (F0 m pc ls st0) rest (va_Qd post B A1 a) (vx_X px BX AX) free) (hS : va_S A0 H0 H locs) (hA : ∀ q, q < H.size → A1 q → A0 q) (hf : ∀ q, free q → A0 q) (hAX : ∀ q, q < H.size → AX q → A0 q)
    (kx : ∀ (E : String) (ce : Cell) (q9 : Addr) (u : SX) (t : State) (H1 : Heap) (locs1 : List Loc), t.heap = H1 → s.vm.Alike t.vm → px u → BX E u t → H.size ≤ H1.size → (∀ q : Nat, q < H.size → ¬ AX q → H1[q]? = H[q]?) → va_S A0 H0 H1 locs1 → H1[q9]? = some ce → ce.vm = .none → s.vm.findClass E = some ce.cls → vx_W p l e R s m args below meth c H1 locs1 (cells + mc) (slots + ms) Q (F0 m pc ls rest) q9)
    (kk : ∀ (r : UInt64) (u : S) (t : State) (H1 : Heap) (locs1 : List Loc), t.heap = H1 → s.vm.Alike t.vm → post r u → B u t → H.size ≤ H1.size → (∀ q : Nat, q < H.size → ¬ A1 q → H1[q]? = H[q]?) → va_S A0 H0 H1 locs1 → W p l e R s m args below meth c H1 locs1 (cells + mc) (slots + ms) Q (F0 m (pc + 3) ls (.double r :: rest))) : W p l e R s m args below meth c H locs cells slots Q (F0 m pc ls st0) := by
  intro T hT X
  rcases hr T hT X with ⟨v, st₀, t, T', L, h0, X', hL, e1, e2, ⟨⟨r, u, hv, hp, hb⟩, hF⟩, st⟩ | ⟨q, st₀, t, T', L, E, ce, h0, X', hL, e1, e2, ⟨u, hp, hb, hF⟩, hce, hcv, hcl, st⟩
  · cases hv
    obtain ⟨k1, k2, k3⟩ := vx_keep h0 e1 hS hA hf hL hF
    obtain ⟨t2, a1, b1⟩ := kk r u t T'.heap (locs ++ L) e1.symm (by rw [← e2]; exact X'.warmed.alike) hp hb k1 k2 k3 T' rfl X'
    exact ⟨t2, st t2 a1, b1⟩
  · obtain ⟨k1, k2, k3⟩ := vx_keep h0 e1 hS hAX hf hL hF
    obtain ⟨t2, a1, b1⟩ := kx E ce q u t T'.heap (locs ++ L) e1.symm (by rw [← e2]; exact X'.warmed.alike) hp hb k1 k2 k3 (by rw [e1]; exact hce) hcv hcl T' rfl X'
    exact ⟨t2, st.trans a1, b1⟩
theorem vx_callv {S SX : Type} {post : S → Prop} {px : SX → Prop} {B : S → State → Prop} {BX : String → SX → State → Prop} {AX : Nat → Prop} (hr : vx_Run p l e R s m args below meth c H locs cells slots mc ms (F0 m pc ls st0) rest (va_Qv post B A1 a) (vx_X px BX AX) free) (hS : va_S A0 H0 H locs) (hA : ∀ q, q < H.size → A1 q → A0 q) (hf : ∀ q, free q → A0 q) (hAX : ∀ q, q < H.size → AX q → A0 q)
    (kx : ∀ (E : String) (ce : Cell) (q9 : Addr) (u : SX) (t : State) (H1 : Heap) (locs1 : List Loc), t.heap = H1 → s.vm.Alike t.vm → px u → BX E u t → H.size ≤ H1.size → (∀ q : Nat, q < H.size → ¬ AX q → H1[q]? = H[q]?) → va_S A0 H0 H1 locs1 → H1[q9]? = some ce → ce.vm = .none → s.vm.findClass E = some ce.cls → vx_W p l e R s m args below meth c H1 locs1 (cells + mc) (slots + ms) Q (F0 m pc ls rest) q9)
    (kk : ∀ (u : S) (t : State) (H1 : Heap) (locs1 : List Loc), t.heap = H1 → s.vm.Alike t.vm → post u → B u t → H.size ≤ H1.size → (∀ q : Nat, q < H.size → ¬ A1 q → H1[q]? = H[q]?) → va_S A0 H0 H1 locs1 → W p l e R s m args below meth c H1 locs1 (cells + mc) (slots + ms) Q (F0 m (pc + 3) ls (rest))) : W p l e R s m args below meth c H locs cells slots Q (F0 m pc ls st0) := by
  intro T hT X
  rcases hr T hT X with ⟨v, st₀, t, T', L, h0, X', hL, e1, e2, ⟨⟨u, hv, hp, hb⟩, hF⟩, st⟩ | ⟨q, st₀, t, T', L, E, ce, h0, X', hL, e1, e2, ⟨u, hp, hb, hF⟩, hce, hcv, hcl, st⟩
  · cases hv
    obtain ⟨k1, k2, k3⟩ := vx_keep h0 e1 hS hA hf hL hF
    obtain ⟨t2, a1, b1⟩ := kk u t T'.heap (locs ++ L) e1.symm (by rw [← e2]; exact X'.warmed.alike) hp hb k1 k2 k3 T' rfl X'
    exact ⟨t2, st t2 a1, b1⟩
  · obtain ⟨k1, k2, k3⟩ := vx_keep h0 e1 hS hAX hf hL hF
    obtain ⟨t2, a1, b1⟩ := kx E ce q u t T'.heap (locs ++ L) e1.symm (by rw [← e2]; exact X'.warmed.alike) hp hb k1 k2 k3 (by rw [e1]; exact hce) hcv hcl T' rfl X'
    exact ⟨t2, st.trans a1, b1⟩
/-- caught by the row x of this method's table; the rows ahead don't take it -/
theorem vx_catch {own name : String} {E : String} {ce : Cell} {q : Addr} (hown : s.vm.findClass own = some m.cls) (pre : List ExceptionTableEntry) (x : ExceptionTableEntry) (suf : List ExceptionTableEntry) (hsplit : c.exceptionTable.toList = pre ++ x :: suf)
    (hpass : ∀ z ∈ pre, covers z pc = false ∨ (z.catchType ≠ 0 ∧ ∃ nm : String, (Cond.classLink own z.catchType nm).before args s = true ∧ va_Nc E nm s)) (hx : covers x pc = true) (h0 : x.catchType ≠ 0)
    (hlink : (Cond.classLink own x.catchType name).before args s = true) (hcast : (Cond.castable E name).before args s = true) (hcell : H[q]? = some ce) (hv : ce.vm = .none) (hcl : s.vm.findClass E = some ce.cls)
    (kk : W p l e R s m args below meth c H locs cells slots Q (F0 m x.handlerPc ls [.ref q])) : vx_W p l e R s m args below meth c H locs cells slots Q (F0 m pc ls rest) q := by
  intro T hT X
  have hpl : e.platform.magicAccessors = ({} : Platform).magicAccessors := by rw [X.admits.platform]
  obtain ⟨c3, c4, hc3, hc4, hasg⟩ := Cond.castable_spec hcast
  cases Option.some.inj (hc3.symm.trans hcl)
  obtain ⟨c5, hc5, hcl5⟩ := Cond.classLink_spec hown hlink e.platform hpl
  cases Option.some.inj (hc4.symm.trans hc5)
  obtain ⟨vm', X', st⟩ := X.thenCaughtThrough q (g := F0 m pc ls rest) rfl (Steps.refl _) (by rw [hT]; exact hcell) (by rw [hv]; rfl) (by obtain ⟨k9, h9, -⟩ := Vm.findClass_spec hcl; exact ⟨k9, h9⟩) pre x suf hsplit
    (fun z hz => by
      rcases hpass z hz with h | ⟨hz0, nm, hl1, hn1⟩
      · exact Or.inl h
      · obtain ⟨c6, hc6, hcl6⟩ := Cond.classLink_spec hown hl1 e.platform hpl
        obtain ⟨a8, b8, h1, h2, h3⟩ := hn1
        cases Option.some.inj (h1.symm.trans hcl)
        cases Option.some.inj (h2.symm.trans hc6)
        exact Or.inr ⟨hz0, _, hcl6, h3⟩) hx (Or.inr ⟨h0, c4, hcl5, hasg⟩)
  obtain ⟨t, a1, b1⟩ := kk (T.setVm vm') hT X'
  exact ⟨t, st.trans a1, b1⟩
end Rows
section Ends
variable {p : Program} {l : Launch} {e : Env} {R : Room} {s : State} {m : MethodId} {args : Array Value} {below : List Frame} {meth : Method} {c : Code} {H : Heap} {locs : List Loc} {cells slots : Nat} {Q : State → Prop}
variable {mc ms : Nat} {free : Addr → Prop} {A0 A1 : Nat → Prop} {H0 : Heap} {a : Array Value} {ls : Array Slot} {st0 rest : List Value}
variable {Qc : Array Value → State → Outcome → State → Prop} {XC : String → State → State → Prop}
/-- what a body that may throw owes at its end -/
def vx_MQ (below : List Frame) (Qc : Array Value → State → Outcome → State → Prop) (XC : String → State → State → Prop) (a : Array Value) (s : State) (mc ms : Nat) (free : Addr → Prop) : State → Prop := fun t =>
  ∃ o, t.status = .running ∧ Ended t below o ∧ vx_Q Qc XC mc ms free a s o t
theorem vx_ret {g : JFrame} {mc ms : Nat} (k : W p l e R s m args below meth c H locs cells slots (MQ below Qc args s mc ms free) g) : W p l e R s m args below meth c H locs cells slots (vx_MQ below Qc XC args s mc ms free) g := by
  intro T hT X
  obtain ⟨t, a1, o, b1, b2, b3, b4⟩ := k T hT X
  exact ⟨t, a1, o, b1, b2, Or.inl ⟨b3, b4⟩⟩
/-- not caught here: it goes on to the caller -/
theorem vx_widen {g : JFrame} {q : Addr} {k n : Nat} (h1 : cells ≤ k) (h2 : slots ≤ n) (kk : vx_W p l e R s m args below meth c H locs k n Q g q) : vx_W p l e R s m args below meth c H locs cells slots Q g q := fun T hT X => kk T hT (stand_widen X h1 h2)
theorem vx_out {pc : Nat} {E : String} {ce : Cell} {q : Addr} {mc ms : Nat} (hout : ∀ x ∈ c.exceptionTable.toList, covers x pc = false) (hlocks : meth.locks = false) (hcell : H[q]? = some ce) (hv : ce.vm = .none) (hcl : s.vm.findClass E = some ce.cls)
    (hx : ∀ t : State, t.heap = H → s.vm.Alike t.vm → XC E s t) (hf : ∀ z ∈ locs, free z.base) (hc : cells ≤ mc) (hs : slots ≤ ms) :
    vx_W p l e R s m args below meth c H locs cells slots (vx_MQ below Qc XC args s mc ms free) (F0 m pc ls rest) q := by
  intro T hT X
  obtain ⟨st1, hrun, hend, hW, hsm⟩ := X.leaveThrown q (g := F0 m pc ls rest) rfl rfl rfl hout hlocks
  have hcell9 : (T.setFrames (.throwing q :: below)).heap[q]? = some ce := by
    show T.heap[q]? = some ce
    rw [hT]; exact hcell
  exact ⟨_, st1, .threw q, hrun, hend, Or.inr ⟨q, rfl, E, ce, locs, hx _ hT hW.alike, hcell9, hv, hcl, hW, hsm.mono hc hs, hf⟩⟩
theorem vx_frame {U : State} {k n : Nat} (h : s.sameButNew ({ U with vm := s.vm } : State) locs k n) : s.heap.size ≤ U.heap.size ∧ ∀ q : Nat, q < s.heap.size → (∀ z ∈ locs, z.base ≠ q) → U.heap[q]? = s.heap[q]? := by
  obtain ⟨-, h2, -, -, -, h6⟩ := h
  refine ⟨h2, fun q hq hz => ?_⟩
  obtain ⟨c9, e1, e2, e3, e4⟩ := h6 q _ (Array.getElem?_eq_getElem hq)
  have hs : c9.slots = (s.heap[q]).slots := Array.ext_getElem? fun i => e4 i fun hm => hz _ hm rfl
  have h9 : c9 = s.heap[q] := by
    rw [hs] at e2
    exact e2
  have e5 : U.heap[q]? = some c9 := e1
  rw [e5, h9, Array.getElem?_eq_getElem hq]
/-- the words of a throw but the four that speak of the heap -/
def vx_no (w : Cond) : Bool := decide (w ≠ .isRef (.static Bundle.tN "UNASSIGNED_STACK" Bundle.steD)) && decide (w ≠ .isRef (.static Bundle.tN "SUPPRESSED_SENTINEL" Bundle.listD)) && decide (w ≠ .laysStatic Bundle.tN "UNASSIGNED_STACK" Bundle.steD) && decide (w ≠ .laysStatic Bundle.tN "SUPPRESSED_SENTINEL" Bundle.listD)
def vx_at0 (own : String) (ic : Nat) (X : String) (names : List String) : List Cond := (Bundle.ownAtoms0 own ic X names).filter vx_no
def vx_atS (own : String) (ic : Nat) (X : String) (names : List String) : List Cond := (Bundle.ownAtoms own ic X names).filter vx_no
/-- a word that the tables alone decide, or a good one -/
def vx_ot (w : Cond) : Bool := w.onTables || goodWord w
theorem vx_ot_at {args a' : Array Value} {s U : State} {w : Cond} (hW : s.WarmedH U.vm) (hvm : s.vm = U.vm) (hg : vx_ot w = true) (h : w.before args s = true) : w.before a' U = true := by
  simp only [vx_ot, Bool.or_eq_true] at hg
  rcases hg with hg | hg
  · exact va_tabs hg hvm h
  · exact word_at hW (good_of_word hg) h
/-- a list's words: the good ones out of the method's own list, the others by premises of their own -/
theorem vx_hat {args : Array Value} {s : State} {L B : List Cond} (h1 : ∀ w ∈ L.filter goodWord, w.before args s = true) (h2 : ∀ w ∈ L.filter (fun w => !goodWord w), w ∈ B) (h3 : ∀ w ∈ B, w.before args s = true) : ∀ w ∈ L, w.before args s = true := by
  intro w hw
  by_cases g : goodWord w = true
  · exact h1 w (List.mem_filter.mpr ⟨hw, g⟩)
  · refine h3 w (h2 w (List.mem_filter.mpr ⟨hw, ?_⟩))
    show (!goodWord w) = true
    cases hgw : goodWord w
    · rfl
    · exact absurd hgw g
theorem vx_c {args : Array Value} {s : State} {w : Cond} {B : List Cond} (h : w.before args s = true) (t : ∀ w ∈ B, w.before args s = true) : ∀ w' ∈ w :: B, w'.before args s = true := fun w' h' => (List.mem_cons.mp h').elim (fun e => by rw [e]; exact h) (t w')
theorem vx_n {args : Array Value} {s : State} : ∀ w ∈ ([] : List Cond), w.before args s = true := fun _ h => nomatch h
theorem vx_own {args : Array Value} {s : State} {L : List Cond} (h1 : ∀ w ∈ L.filter vx_no, w.before args s = true)
    (hU : (Cond.isRef (.static Bundle.tN "UNASSIGNED_STACK" Bundle.steD)).before args s = true) (hN : (Cond.isRef (.static Bundle.tN "SUPPRESSED_SENTINEL" Bundle.listD)).before args s = true)
    (lU : (Cond.laysStatic Bundle.tN "UNASSIGNED_STACK" Bundle.steD).before args s = true) (lN : (Cond.laysStatic Bundle.tN "SUPPRESSED_SENTINEL" Bundle.listD).before args s = true) : ∀ w ∈ L, w.before args s = true := by
  intro w hw
  by_cases e1 : w = .isRef (.static Bundle.tN "UNASSIGNED_STACK" Bundle.steD)
  · rw [e1]; exact hU
  · by_cases e2 : w = .isRef (.static Bundle.tN "SUPPRESSED_SENTINEL" Bundle.listD)
    · rw [e2]; exact hN
    · by_cases e3 : w = .laysStatic Bundle.tN "UNASSIGNED_STACK" Bundle.steD
      · rw [e3]; exact lU
      · by_cases e4 : w = .laysStatic Bundle.tN "SUPPRESSED_SENTINEL" Bundle.listD
        · rw [e4]; exact lN
        · exact h1 w (List.mem_filter.mpr ⟨hw, by unfold vx_no; rw [decide_eq_true e1, decide_eq_true e2, decide_eq_true e3, decide_eq_true e4]; rfl⟩)
/-- where a static field lies, its class's statics cell in H -/
def vx_L (C n d : String) (A : Nat → Prop) (U : State) (H : Heap) : Prop := ∃ (c : ClassId) (k : Class) (i : Nat) (f : Field) (a : Nat) (cell : Cell), U.vm.findClass C = some c ∧ U.fieldFound? C n d = some (c, k, i, f) ∧ f.isStatic = true ∧ k.statics = some a ∧ H[a]? = some cell ∧ cell.vm.isStatics = true ∧ cell.cls = c ∧ f.slot < cell.slots.size ∧ k.staticTypes[f.slot]? = some f.type ∧ ¬ A a
theorem vx_L.moved {C n d : String} {A : Nat → Prop} {u U : State} {H : Heap} (hvm : u.vm.Alike U.vm) (h : vx_L C n d A u H) : vx_L C n d A U H := by
  obtain ⟨c, k, i, f, a, cell, h1, h2, h3, h4, h5, h6, h7, h8, h9, h10⟩ := h
  obtain ⟨k', hi', he⟩ := State.fieldFound?_setVm hvm h2
  exact ⟨c, k', i, f, a, cell, by rw [hvm.findClass]; exact h1, hi', h3, by rw [he]; exact h4, h5, h6, h7, h8, by rw [he]; exact h9, h10⟩
theorem vx_L.kept {C n d : String} {A : Nat → Prop} {U : State} {H H1 : Heap} (h : vx_L C n d A U H) (hq : ∀ a : Nat, a < H.size → ¬ A a → H1[a]? = H[a]?) : vx_L C n d A U H1 := by
  obtain ⟨c, k, i, f, a, cell, h1, h2, h3, h4, h5, h6, h7, h8, h9, h10⟩ := h
  exact ⟨c, k, i, f, a, cell, h1, h2, h3, h4, by rw [hq a (Array.getElem?_eq_some_iff.mp h5).1 h10]; exact h5, h6, h7, h8, h9, h10⟩
theorem vx_L.narrow {C n d : String} {A B : Nat → Prop} {U : State} {H : Heap} (h : vx_L C n d A U H) (hAB : ∀ q, B q → A q) : vx_L C n d B U H := by
  obtain ⟨c, k, i, f, a, cell, h1, h2, h3, h4, h5, h6, h7, h8, h9, h10⟩ := h
  exact ⟨c, k, i, f, a, cell, h1, h2, h3, h4, h5, h6, h7, h8, h9, fun z => h10 (hAB _ z)⟩
theorem vx_L.word {C n d : String} {A : Nat → Prop} {s : State} {args : Array Value} (h : vx_L C n d A s s.heap) : (Cond.laysStatic C n d).before args s = true := by
  obtain ⟨c, k, i, f, a, cell, h1, h2, h3, h4, h5, h6, h7, h8, h9, -⟩ := h
  show (Cond.laysStatic C n d).holds args s none s [] = true
  exact Cond.laysStatic_of h1 h2 h3 h4 h5 h6 h7 h8 h9
/-- .. and what it holds: null or some reference -/
def vx_Zq (C n d : String) (A : Nat → Prop) (U : State) (H : Heap) : Prop := va_Zq C n d A U H ∧ vx_L C n d A U H
theorem vx_Zq.moved {C n d : String} {A : Nat → Prop} {u U : State} {H : Heap} (hvm : u.vm.Alike U.vm) (h : vx_Zq C n d A u H) : vx_Zq C n d A U H := ⟨va_Zq.moved hvm h.1, vx_L.moved hvm h.2⟩
theorem vx_Zq.kept {C n d : String} {A : Nat → Prop} {U : State} {H H1 : Heap} (h : vx_Zq C n d A U H) (hq : ∀ a : Nat, a < H.size → ¬ A a → H1[a]? = H[a]?) : vx_Zq C n d A U H1 := ⟨va_Zq.kept h.1 hq, vx_L.kept h.2 hq⟩
theorem vx_Zq.narrow {C n d : String} {A B : Nat → Prop} {U : State} {H : Heap} (h : vx_Zq C n d A U H) (hAB : ∀ q, B q → A q) : vx_Zq C n d B U H := ⟨va_Zq.narrow h.1 hAB, vx_L.narrow h.2 hAB⟩
theorem vx_Zqof {args : Array Value} {s : State} {C n d : String} {A : Nat → Prop} (hl : (Cond.laysStatic C n d).before args s = true) (hini : (Cond.initialized C).before args s = true) (h : (Cond.isRef (.static C n d)).before args s = true) (hA : ∀ a : Nat, a < s.heap.size → ¬ A a) : vx_Zq C n d A s s.heap := by
  refine ⟨va_Zqof hl hini h hA, ?_⟩
  obtain ⟨c, k, i, f, a, cell, h1, h2, h3, h4, h5, h6, h7, h8, h9⟩ := Cond.laysStatic_spec hl
  exact ⟨c, k, i, f, a, cell, h1, h2, h3, h4, h5, h6, h7, h8, h9, hA a (Array.getElem?_eq_some_iff.mp h5).1⟩
theorem vx_isRef {C n d : String} {v : Value} {A : Nat → Prop} {s : State} {args : Array Value} (h : va_Z C n d v A s s.heap) (hv : v.isRef = true) : (Cond.isRef (.static C n d)).before args s = true := by
  obtain ⟨cf, kf, fi, f, a, cell, h1, h2, h3, h4, h5, h6, h7, -⟩ := h
  have he : (Term.static C n d).eval args s none [] s = some v := by
    simp [Term.eval, State.fieldNamed?, h1, h2, h4, h5, h6, h7]
  simp only [Cond.before, Cond.holds, Cond.value, he]
  cases v <;> simp_all [Value.isRef]
theorem vx_isRefq {C n d : String} {A : Nat → Prop} {s : State} {args : Array Value} (h : va_Zq C n d A s s.heap) : (Cond.isRef (.static C n d)).before args s = true := by
  rcases h with h | ⟨t, h⟩
  · exact vx_isRef h rfl
  · exact vx_isRef h rfl
/-- the same frame, seen from here: as if the method were called anew in this heap -/
theorem vx_rebase {T : State} (X : Stand p l e R s m args below meth c T locs cells slots) {R' : Room} (hf : R'.frames ≤ R.frames) (hl : R'.locals ≤ R.locals) (hc : cells + R'.cells ≤ R.cells) (hs : slots + R'.slots ≤ R.slots) :
    Stand p l e R' ((T.setVm s.vm).setFrames (.invoking m args :: below)) m args below meth c T [] 0 0 := by
  have htop : (T.setVm s.vm).topJava?.isSome := X.here.top
  have hF : ((T.setVm s.vm).setFrames (.invoking m args :: below)).frames = .invoking m args :: below := State.frames_setFrames _ (State.cur_lt_of_top htop)
  obtain ⟨g₀, hg0⟩ := Option.isSome_iff_exists.mp htop
  obtain ⟨r, hr⟩ := State.topJava?_eq_some.mp hg0
  have hl9 : e.platform.stackLimits (T.setVm s.vm).me = e.platform.stackLimits s.me := X.limits
  have hb9 : (T.setVm s.vm).me.stackBytes = s.me.stackBytes := X.bytes
  refine ⟨X.admits, X.cas, X.clock, hF, ?_, X.hears, X.method, X.code, X.here, X.tail, X.warmed, ?_, ?_, ?_⟩
  · have h := X.room
    have hU : ((T.setVm s.vm).setFrames (.invoking m args :: below)).localsInUse = s.localsInUse := by
      rw [State.localsInUse_invoking hF (meth := meth) (c := c) X.method X.code, State.localsInUse_invoking X.frames X.method X.code]
    simp only [State.hasRoom, Bool.and_eq_true, decide_eq_true_eq] at h ⊢
    obtain ⟨⟨⟨⟨h1, h2, h3, h4, h5, h6⟩, h7⟩, h8⟩, h9⟩ := h
    rw [X.frames, List.length_cons] at h2 h3
    have q1 := X.heapSize
    have q2 := X.used
    simp only [hF, hU, List.length_cons, State.stackLimits_setFrames, State.stackBytes_setFrames, hl9, hb9]
    refine ⟨⟨⟨⟨by omega, by omega, by omega, by omega, by omega, h6⟩, ?_⟩, ?_⟩, X.book⟩
    · show T.heap.size + R'.cells ≤ e.platform.maxCells
      omega
    · show T.slotsUsed + R'.slots ≤ e.platform.maxSlots
      omega
  · rw [State.stackLimits_setFrames]; rfl
  · rw [State.stackBytes_setFrames]; rfl
  · refine ⟨?_, Nat.le_refl _, Nat.le_refl _, ?_, ?_, fun a c9 h9 => ⟨c9, h9, rfl, rfl, fun _ _ => rfl⟩⟩
    · obtain ⟨t, ht, -⟩ := State.frames_cons hr
      show T.setVm s.vm = { ((T.setVm s.vm).setFrames (.invoking m args :: below)).setFrames (T.setVm s.vm).frames with heap := T.heap, slotsUsed := T.slotsUsed }
      rw [State.setFrames_setFrames, State.setFrames_self ht]
      rfl
    · show T.slotsUsed = T.slotsUsed + ((T.heap.toList.drop T.heap.size).map (·.slots.size)).sum
      rw [List.drop_eq_nil_of_le (Nat.le_of_eq Array.length_toList)]
      rfl
    · show ((T.heap.toList.drop T.heap.size).map (·.slots.size)).sum ≤ 0
      rw [List.drop_eq_nil_of_le (Nat.le_of_eq Array.length_toList)]
      exact Nat.le_refl _
/-- 'throw new E()': new; dup; invokespecial; athrow -/
theorem vx_throw0 {cc : ByteArray} {pc : Nat} (hexec : p.tables.exec = Jvm.exec) (hb : c.code = cc) (hl : l.stackTraces = false) {own cls : String} {names : List String} {ik ic mc ms : Nat} {A : Nat → Prop}
    (hown : s.vm.findClass own = some m.cls) (hcls : Bundle.fit cls = true) (hnames : ∀ n ∈ names, Bundle.fit n = true)
    (hk : (Cond.classLink own ik cls).before args s = true) (hini : (Cond.initialized cls).before args s = true) (hat : ∀ w ∈ vx_at0 own ic cls names, w.before args s = true)
    (hgood : ∀ w ∈ Cond.classLink own ik cls :: Cond.initialized cls :: vx_at0 own ic cls names, vx_ot w = true)
    (hU : vx_Zq Bundle.tN "UNASSIGNED_STACK" Bundle.steD A s s.heap) (hN : vx_Zq Bundle.tN "SUPPRESSED_SENTINEL" Bundle.listD A s s.heap) (hS : va_S A s.heap H locs) (hsize : ls.size = c.maxLocals)
    (d0 : decode cc pc = .ok (.new ik, 3)) (d3 : decode cc (pc + 3) = .ok (.dup, 1)) (d4 : decode cc (pc + 4) = .ok (.invokespecial ic, 3)) (d7 : decode cc (pc + 7) = .ok (.athrow, 1))
    (hout : ∀ x ∈ c.exceptionTable.toList, covers x (pc + 7) = false)
    (hRframes : names.length + 3 < R.frames) (hRlocals : (rest.map fun v => v.category).sum + (13 * (names.length + 1) + 42) ≤ R.locals) (hRcells : cells + 1 ≤ R.cells) (hRslots : slots + 6 ≤ R.slots) (hlocks : meth.locks = false)
    (hx : ∀ t : State, s.vm.Alike t.vm → H.size ≤ t.heap.size → (∀ q : Nat, q < H.size → t.heap[q]? = H[q]?) → XC cls s t)
    (hf : ∀ z ∈ locs, free z.base) (hc : cells + 1 ≤ mc) (hs : slots + 6 ≤ ms) :
    W p l e R s m args below meth c H locs cells slots (vx_MQ below Qc XC args s mc ms free) (F0 m pc ls rest) := by
  intro T hT X
  have htr : e.platform.stackTraces = false := (show e.platform.stackTraces = l.stackTraces by rw [X.admits.platform]).trans hl
  have Y := vx_rebase X (R' := { frames := R.frames, locals := R.locals, cells := 1, slots := 6 }) (Nat.le_refl _) (Nat.le_refl _) hRcells hRslots
  obtain ⟨s', hA⟩ : ∃ z, z = (T.setVm s.vm).setFrames (.invoking m args :: below) := ⟨_, rfl⟩
  rw [← hA] at Y
  have hvm : s'.vm = s.vm := by rw [hA]; rfl
  have hhp : s'.heap = H := by rw [hA]; exact hT
  have hW0 : s.WarmedH s'.vm := by rw [hvm]; exact State.WarmedH.refl s
  have hat' : ∀ w ∈ vx_at0 own ic cls names, w.before args s' = true := fun w hw => vx_ot_at hW0 hvm.symm (hgood w (List.mem_cons_of_mem _ (List.mem_cons_of_mem _ hw))) (hat w hw)
  have hk' : (Cond.classLink own ik cls).before args s' = true := vx_ot_at hW0 hvm.symm (hgood _ List.mem_cons_self) hk
  have hini' : (Cond.initialized cls).before args s' = true := vx_ot_at hW0 hvm.symm (hgood _ (List.mem_cons_of_mem _ List.mem_cons_self)) hini
  have hU' : vx_Zq Bundle.tN "UNASSIGNED_STACK" Bundle.steD A s' s'.heap := by rw [hhp]; exact vx_Zq.moved hW0.alike (hU.kept hS.2.1)
  have hN' : vx_Zq Bundle.tN "SUPPRESSED_SENTINEL" Bundle.listD A s' s'.heap := by rw [hhp]; exact vx_Zq.moved hW0.alike (hN.kept hS.2.1)
  have h : ∀ w ∈ Bundle.ownAtoms0 own ic cls names, w.before args s' = true := vx_own hat' (vx_isRefq hU'.1) (vx_isRefq hN'.1) hU'.2.word hN'.2.word
  have hown' : s'.vm.findClass own = some m.cls := by rw [hvm]; exact hown
  have hins : (Cond.instantiable cls 6).before args s' = true := h _ (by simp [Bundle.ownAtoms0])
  obtain ⟨vm₁, cX, kX, hfX, hkX, -, -, X₁, st1⟩ := Y.newCold hexec (own := own) (C := cls) (index := ik) (n := 6) hown' hk' hins hini'
    (g := F0 m pc ls rest) rfl (by rw [hb]; exact d0) (Nat.le_refl _) (Nat.le_refl _)
  generalize hT1 : (T.setVm vm₁).pushCell { cls := cX, slots := kX.instanceTypes.map defaultValue, vm := .none } = T1 at X₁ st1
  have hcat : (Value.ref T.heap.size).category = 1 := rfl
  have hcellA : T1.heap[T.heap.size]? = some (freshCell cX kX) := by rw [← hT1]; exact State.heap_pushCell_size _ _
  have d3' : decode c.code (pc + 3) = .ok (.dup, 1) := by rw [hb]; exact d3
  obtain ⟨U, hsteps, hrun, hend, hW, hsame, ce, hce, hO⟩ := X₁.ctorThrow0 hexec htr (own := own) (cls := cls) (names := names) (ic := ic) hown' hcls hnames h (fun x hx => nomatch hx) hfX hkX hcellA (by rw [hhp, hT]; exact Nat.le_refl _)
    (g := { method := m, pc := pc + 4, locals := ls, stack := .ref T.heap.size :: .ref T.heap.size :: rest, locked := none }) rfl hsize rfl rfl (rest := rest) rfl
    (by rw [hb]; exact d4) (by rw [hb]; exact d7) hout hRframes (by simp only [List.map_cons, List.sum_cons, hcat]; omega) hlocks
  obtain ⟨f1, f2⟩ := vx_frame hsame
  rw [hhp] at f1 f2
  have hWs : s.WarmedH U.vm := State.WarmedH.trans hW0 hW
  have hcl : s.vm.findClass cls = some ce.cls := by
    have h9 := hO.cls
    rw [hvm] at h9
    exact h9
  have hall : s.sameButNew ({ U with vm := s.vm } : State) locs mc ms := by
    subst hA
    obtain ⟨e1, e2⟩ := hsame
    rw [State.setFrames_setFrames] at e1
    have h2 : (T.setVm s.vm).sameButNew ({ U with vm := s.vm } : State) [] (0 + 1) (0 + 6) := ⟨e1, e2⟩
    have h3 := X.same.trans h2
    rw [List.append_nil] at h3
    exact h3.mono hc hs
  refine ⟨U, ?_, .threw T.heap.size, hrun, hend, Or.inr ⟨T.heap.size, rfl, cls, ce, locs, hx U hWs.alike f1 (fun q hq => f2 q hq (fun z hz => nomatch hz)), hce, hO.vm, hcl, hWs, hall, hf⟩⟩
  refine st1 _ ?_
  show Steps p.tables e below (T1.setTop { method := m, pc := pc + 3, locals := ls, stack := .ref T.heap.size :: rest, locked := none }) _
  jvm_step X₁.here [X₁.here.top, hexec, d3', Value.category]
  exact hsteps
/-- 'throw new E("text")': new; dup; ldc; invokespecial; athrow -/
theorem vx_throwS {cc : ByteArray} {pc : Nat} (hexec : p.tables.exec = Jvm.exec) (hb : c.code = cc) (hl : l.stackTraces = false) {own cls text : String} {names : List String} {ik is ic mc ms sa : Nat} {A : Nat → Prop}
    (hown : s.vm.findClass own = some m.cls) (hcls : Bundle.fit cls = true) (hnames : ∀ n ∈ names, Bundle.fit n = true)
    (hk : (Cond.classLink own ik cls).before args s = true) (hini : (Cond.initialized cls).before args s = true) (hstr : vk_R own is text sa s) (hat : ∀ w ∈ vx_atS own ic cls names, w.before args s = true)
    (hgood : ∀ w ∈ Cond.classLink own ik cls :: Cond.initialized cls :: vx_atS own ic cls names, vx_ot w = true)
    (hU : vx_Zq Bundle.tN "UNASSIGNED_STACK" Bundle.steD A s s.heap) (hN : vx_Zq Bundle.tN "SUPPRESSED_SENTINEL" Bundle.listD A s s.heap) (hS : va_S A s.heap H locs) (hsize : ls.size = c.maxLocals)
    (d0 : decode cc pc = .ok (.new ik, 3)) (d3 : decode cc (pc + 3) = .ok (.dup, 1)) (d4 : decode cc (pc + 4) = .ok (.ldc is, 2)) (d6 : decode cc (pc + 6) = .ok (.invokespecial ic, 3)) (d9 : decode cc (pc + 9) = .ok (.athrow, 1))
    (hout : ∀ x ∈ c.exceptionTable.toList, covers x (pc + 9) = false)
    (hRframes : names.length + 3 < R.frames) (hRlocals : (rest.map fun v => v.category).sum + (13 * (names.length + 1) + 43) ≤ R.locals) (hRcells : cells + 1 ≤ R.cells) (hRslots : slots + 6 ≤ R.slots) (hlocks : meth.locks = false)
    (hx : ∀ t : State, s.vm.Alike t.vm → H.size ≤ t.heap.size → (∀ q : Nat, q < H.size → t.heap[q]? = H[q]?) → XC cls s t)
    (hf : ∀ z ∈ locs, free z.base) (hc : cells + 1 ≤ mc) (hs : slots + 6 ≤ ms) :
    W p l e R s m args below meth c H locs cells slots (vx_MQ below Qc XC args s mc ms free) (F0 m pc ls rest) := by
  intro T hT X
  have htr : e.platform.stackTraces = false := (show e.platform.stackTraces = l.stackTraces by rw [X.admits.platform]).trans hl
  have Y := vx_rebase X (R' := { frames := R.frames, locals := R.locals, cells := 1, slots := 6 }) (Nat.le_refl _) (Nat.le_refl _) hRcells hRslots
  obtain ⟨s', hA⟩ : ∃ z, z = (T.setVm s.vm).setFrames (.invoking m args :: below) := ⟨_, rfl⟩
  rw [← hA] at Y
  have hvm : s'.vm = s.vm := by rw [hA]; rfl
  have hhp : s'.heap = H := by rw [hA]; exact hT
  have hW0 : s.WarmedH s'.vm := by rw [hvm]; exact State.WarmedH.refl s
  have hat' : ∀ w ∈ vx_atS own ic cls names, w.before args s' = true := fun w hw => vx_ot_at hW0 hvm.symm (hgood w (List.mem_cons_of_mem _ (List.mem_cons_of_mem _ hw))) (hat w hw)
  have hk' : (Cond.classLink own ik cls).before args s' = true := vx_ot_at hW0 hvm.symm (hgood _ List.mem_cons_self) hk
  have hini' : (Cond.initialized cls).before args s' = true := vx_ot_at hW0 hvm.symm (hgood _ (List.mem_cons_of_mem _ List.mem_cons_self)) hini
  have hU' : vx_Zq Bundle.tN "UNASSIGNED_STACK" Bundle.steD A s' s'.heap := by rw [hhp]; exact vx_Zq.moved hW0.alike (hU.kept hS.2.1)
  have hN' : vx_Zq Bundle.tN "SUPPRESSED_SENTINEL" Bundle.listD A s' s'.heap := by rw [hhp]; exact vx_Zq.moved hW0.alike (hN.kept hS.2.1)
  have h : ∀ w ∈ Bundle.ownAtoms own ic cls names, w.before args s' = true := vx_own hat' (vx_isRefq hU'.1) (vx_isRefq hN'.1) hU'.2.word hN'.2.word
  have hown' : s'.vm.findClass own = some m.cls := by rw [hvm]; exact hown
  have hins : (Cond.instantiable cls 6).before args s' = true := h _ (by simp [Bundle.ownAtoms])
  obtain ⟨vm₁, cX, kX, hfX, hkX, -, -, X₁, st1⟩ := Y.newCold hexec (own := own) (C := cls) (index := ik) (n := 6) hown' hk' hins hini'
    (g := F0 m pc ls rest) rfl (by rw [hb]; exact d0) (Nat.le_refl _) (Nat.le_refl _)
  generalize hT1 : (T.setVm vm₁).pushCell { cls := cX, slots := kX.instanceTypes.map defaultValue, vm := .none } = T1 at X₁ st1
  have hcat : (Value.ref T.heap.size).category = 1 := rfl
  have hcellA : T1.heap[T.heap.size]? = some (freshCell cX kX) := by rw [← hT1]; exact State.heap_pushCell_size _ _
  have d3' : decode c.code (pc + 3) = .ok (.dup, 1) := by rw [hb]; exact d3
  have d4' : decode c.code (pc + 4) = .ok (.ldc is, 2) := by rw [hb]; exact d4
  have hstr' : vk_R own is text sa s' := vk_R.warm hW0 hstr
  obtain ⟨U, hsteps, hrun, hend, hW, hsame, ce, hce, hO⟩ := X₁.ctorThrowS hexec htr (own := own) (cls := cls) (names := names) (ic := ic) hown' hcls hnames h (fun x hx => nomatch hx) hfX hkX hcellA (by rw [hhp, hT]; exact Nat.le_refl _) (msg := .ref sa) rfl
    (g := { method := m, pc := pc + 6, locals := ls, stack := .ref sa :: .ref T.heap.size :: .ref T.heap.size :: rest, locked := none }) rfl hsize rfl rfl (rest := rest) rfl
    (by rw [hb]; exact d6) (by rw [hb]; exact d9) hout hRframes (by simp only [List.map_cons, List.sum_cons, hcat]; omega) hlocks
  obtain ⟨f1, f2⟩ := vx_frame hsame
  rw [hhp] at f1 f2
  have hWs : s.WarmedH U.vm := State.WarmedH.trans hW0 hW
  have hcl : s.vm.findClass cls = some ce.cls := by
    have h9 := hO.cls
    rw [hvm] at h9
    exact h9
  have hall : s.sameButNew ({ U with vm := s.vm } : State) locs mc ms := by
    subst hA
    obtain ⟨e1, e2⟩ := hsame
    rw [State.setFrames_setFrames] at e1
    have h2 : (T.setVm s.vm).sameButNew ({ U with vm := s.vm } : State) [] (0 + 1) (0 + 6) := ⟨e1, e2⟩
    have h3 := X.same.trans h2
    rw [List.append_nil] at h3
    exact h3.mono hc hs
  refine ⟨U, ?_, .threw T.heap.size, hrun, hend, Or.inr ⟨T.heap.size, rfl, cls, ce, locs, hx U hWs.alike f1 (fun q hq => f2 q hq (fun z hz => nomatch hz)), hce, hO.vm, hcl, hWs, hall, hf⟩⟩
  refine st1 _ ?_
  show Steps p.tables e below (T1.setTop { method := m, pc := pc + 3, locals := ls, stack := .ref T.heap.size :: rest, locked := none }) _
  jvm_step X₁.here [X₁.here.top, hexec, d3', Value.category]
  exact X₁.ldcString hexec (own := own) (text := text) (index := is) (a := sa) hown' hstr'.1 hstr'.2
    (g := { method := m, pc := pc + 4, locals := ls, stack := .ref T.heap.size :: .ref T.heap.size :: rest, locked := none }) rfl d4' _ hsteps
/-- 'throw new E("text")', the text by a wide index -/
theorem vx_throwSW {cc : ByteArray} {pc : Nat} (hexec : p.tables.exec = Jvm.exec) (hb : c.code = cc) (hl : l.stackTraces = false) {own cls text : String} {names : List String} {ik is ic mc ms sa : Nat} {A : Nat → Prop}
    (hown : s.vm.findClass own = some m.cls) (hcls : Bundle.fit cls = true) (hnames : ∀ n ∈ names, Bundle.fit n = true)
    (hk : (Cond.classLink own ik cls).before args s = true) (hini : (Cond.initialized cls).before args s = true) (hstr : vk_R own is text sa s) (hat : ∀ w ∈ vx_atS own ic cls names, w.before args s = true)
    (hgood : ∀ w ∈ Cond.classLink own ik cls :: Cond.initialized cls :: vx_atS own ic cls names, vx_ot w = true)
    (hU : vx_Zq Bundle.tN "UNASSIGNED_STACK" Bundle.steD A s s.heap) (hN : vx_Zq Bundle.tN "SUPPRESSED_SENTINEL" Bundle.listD A s s.heap) (hS : va_S A s.heap H locs) (hsize : ls.size = c.maxLocals)
    (d0 : decode cc pc = .ok (.new ik, 3)) (d3 : decode cc (pc + 3) = .ok (.dup, 1)) (d4 : decode cc (pc + 4) = .ok (.ldc_w is, 3)) (d7 : decode cc (pc + 7) = .ok (.invokespecial ic, 3)) (d10 : decode cc (pc + 10) = .ok (.athrow, 1))
    (hout : ∀ x ∈ c.exceptionTable.toList, covers x (pc + 10) = false)
    (hRframes : names.length + 3 < R.frames) (hRlocals : (rest.map fun v => v.category).sum + (13 * (names.length + 1) + 43) ≤ R.locals) (hRcells : cells + 1 ≤ R.cells) (hRslots : slots + 6 ≤ R.slots) (hlocks : meth.locks = false)
    (hx : ∀ t : State, s.vm.Alike t.vm → H.size ≤ t.heap.size → (∀ q : Nat, q < H.size → t.heap[q]? = H[q]?) → XC cls s t)
    (hf : ∀ z ∈ locs, free z.base) (hc : cells + 1 ≤ mc) (hs : slots + 6 ≤ ms) :
    W p l e R s m args below meth c H locs cells slots (vx_MQ below Qc XC args s mc ms free) (F0 m pc ls rest) := by
  intro T hT X
  have htr : e.platform.stackTraces = false := (show e.platform.stackTraces = l.stackTraces by rw [X.admits.platform]).trans hl
  have Y := vx_rebase X (R' := { frames := R.frames, locals := R.locals, cells := 1, slots := 6 }) (Nat.le_refl _) (Nat.le_refl _) hRcells hRslots
  obtain ⟨s', hA⟩ : ∃ z, z = (T.setVm s.vm).setFrames (.invoking m args :: below) := ⟨_, rfl⟩
  rw [← hA] at Y
  have hvm : s'.vm = s.vm := by rw [hA]; rfl
  have hhp : s'.heap = H := by rw [hA]; exact hT
  have hW0 : s.WarmedH s'.vm := by rw [hvm]; exact State.WarmedH.refl s
  have hat' : ∀ w ∈ vx_atS own ic cls names, w.before args s' = true := fun w hw => vx_ot_at hW0 hvm.symm (hgood w (List.mem_cons_of_mem _ (List.mem_cons_of_mem _ hw))) (hat w hw)
  have hk' : (Cond.classLink own ik cls).before args s' = true := vx_ot_at hW0 hvm.symm (hgood _ List.mem_cons_self) hk
  have hini' : (Cond.initialized cls).before args s' = true := vx_ot_at hW0 hvm.symm (hgood _ (List.mem_cons_of_mem _ List.mem_cons_self)) hini
  have hU' : vx_Zq Bundle.tN "UNASSIGNED_STACK" Bundle.steD A s' s'.heap := by rw [hhp]; exact vx_Zq.moved hW0.alike (hU.kept hS.2.1)
  have hN' : vx_Zq Bundle.tN "SUPPRESSED_SENTINEL" Bundle.listD A s' s'.heap := by rw [hhp]; exact vx_Zq.moved hW0.alike (hN.kept hS.2.1)
  have h : ∀ w ∈ Bundle.ownAtoms own ic cls names, w.before args s' = true := vx_own hat' (vx_isRefq hU'.1) (vx_isRefq hN'.1) hU'.2.word hN'.2.word
  have hown' : s'.vm.findClass own = some m.cls := by rw [hvm]; exact hown
  have hins : (Cond.instantiable cls 6).before args s' = true := h _ (by simp [Bundle.ownAtoms])
  obtain ⟨vm₁, cX, kX, hfX, hkX, -, -, X₁, st1⟩ := Y.newCold hexec (own := own) (C := cls) (index := ik) (n := 6) hown' hk' hins hini'
    (g := F0 m pc ls rest) rfl (by rw [hb]; exact d0) (Nat.le_refl _) (Nat.le_refl _)
  generalize hT1 : (T.setVm vm₁).pushCell { cls := cX, slots := kX.instanceTypes.map defaultValue, vm := .none } = T1 at X₁ st1
  have hcat : (Value.ref T.heap.size).category = 1 := rfl
  have hcellA : T1.heap[T.heap.size]? = some (freshCell cX kX) := by rw [← hT1]; exact State.heap_pushCell_size _ _
  have d3' : decode c.code (pc + 3) = .ok (.dup, 1) := by rw [hb]; exact d3
  have d4' : decode c.code (pc + 4) = .ok (.ldc_w is, 3) := by rw [hb]; exact d4
  have hstr' : vk_R own is text sa s' := vk_R.warm hW0 hstr
  obtain ⟨U, hsteps, hrun, hend, hW, hsame, ce, hce, hO⟩ := X₁.ctorThrowS hexec htr (own := own) (cls := cls) (names := names) (ic := ic) hown' hcls hnames h (fun x hx => nomatch hx) hfX hkX hcellA (by rw [hhp, hT]; exact Nat.le_refl _) (msg := .ref sa) rfl
    (g := { method := m, pc := pc + 7, locals := ls, stack := .ref sa :: .ref T.heap.size :: .ref T.heap.size :: rest, locked := none }) rfl hsize rfl rfl (rest := rest) rfl
    (by rw [hb]; exact d7) (by rw [hb]; exact d10) hout hRframes (by simp only [List.map_cons, List.sum_cons, hcat]; omega) hlocks
  obtain ⟨f1, f2⟩ := vx_frame hsame
  rw [hhp] at f1 f2
  have hWs : s.WarmedH U.vm := State.WarmedH.trans hW0 hW
  have hcl : s.vm.findClass cls = some ce.cls := by
    have h9 := hO.cls
    rw [hvm] at h9
    exact h9
  have hall : s.sameButNew ({ U with vm := s.vm } : State) locs mc ms := by
    subst hA
    obtain ⟨e1, e2⟩ := hsame
    rw [State.setFrames_setFrames] at e1
    have h2 : (T.setVm s.vm).sameButNew ({ U with vm := s.vm } : State) [] (0 + 1) (0 + 6) := ⟨e1, e2⟩
    have h3 := X.same.trans h2
    rw [List.append_nil] at h3
    exact h3.mono hc hs
  refine ⟨U, ?_, .threw T.heap.size, hrun, hend, Or.inr ⟨T.heap.size, rfl, cls, ce, locs, hx U hWs.alike f1 (fun q hq => f2 q hq (fun z hz => nomatch hz)), hce, hO.vm, hcl, hWs, hall, hf⟩⟩
  refine st1 _ ?_
  show Steps p.tables e below (T1.setTop { method := m, pc := pc + 3, locals := ls, stack := .ref T.heap.size :: rest, locked := none }) _
  jvm_step X₁.here [X₁.here.top, hexec, d3', Value.category]
  exact X₁.ldcStringW hexec (own := own) (text := text) (index := is) (a := sa) hown' hstr'.1 hstr'.2
    (g := { method := m, pc := pc + 4, locals := ls, stack := .ref T.heap.size :: .ref T.heap.size :: rest, locked := none }) rfl d4' _ hsteps
end Ends
section Bodies
variable {l : Launch}
theorem vx_ofW {y : MethodName} {ws ws' : List Cond} {rm : Room} {Pc : Array Value → State → Prop} {Qc : Array Value → State → Outcome → State → Prop} {XC : String → State → State → Prop} {mc ms : Nat} {free : Addr → Prop} {cc : ByteArray} {maxL : Nat} {ret : Option FieldType}
    (hy : plainName y.cls = true) (hw : ws = Cond.code y cc maxL ret :: ws')
    (body : ∀ p e s m args below meth c s₁, BodyLoose p l y (headSpec ws rm) cc maxL ret e s m args below meth c s₁ → c.maxLocals = maxL → (∀ x ∈ c.exceptionTable.toList, False) → Pc args s →
      W p l e (headSpec ws rm).room s m args below meth c s.heap [] 0 0 (vx_MQ below Qc XC args s mc ms free) (entryFrame m args maxL)) : vx_Met l y ws rm Pc Qc XC mc ms free := by
  refine MetFree.of_bodyS (code := cc) (maxLocals := maxL) (ret := ret) hy ?_ ?_
  · intro args s m h hn
    obtain ⟨meth, c, h1, h2, h3, h4, h5, h6, -, -⟩ := Cond.code_spec hn (atoms_spec (ws := ws) h _ (by rw [hw]; exact List.mem_cons_self))
    exact ⟨meth, c, h1, h2, h3, h4, h5, h6⟩
  · intro p e s m args below meth c s₁ B hml hP _
    have hh0 : s₁.heap = s.heap := by rw [B.state]; rfl
    have ht : ∀ x ∈ c.exceptionTable.toList, False := by
      obtain ⟨meth9, c9, h1, h2, -, -, -, -, h7, -⟩ := Cond.code_spec B.named (atoms_spec (ws := ws) B.pre _ (by rw [hw]; exact List.mem_cons_self))
      cases Option.some.inj (h1.symm.trans B.method)
      cases Option.some.inj (h2.symm.trans (Stand.of_body B).code)
      intro x hx
      rw [Array.isEmpty_iff.mp h7] at hx
      cases hx
    obtain ⟨t, a1, o, b1, b2, b3⟩ := body p e s m args below meth c s₁ B hml ht hP s₁ hh0 (Stand.of_body B)
    exact ⟨t, o, a1, b1, b2, b3⟩
/-- the table of a body with handlers -/
theorem vx_table {p : Program} {x y : MethodName} {S : Spec} {cc bytes : ByteArray} {maxL maxL' : Nat} {ret ret' : Option FieldType} {e : Env} {s s₁ : State} {m : MethodId} {args : Array Value} {below : List Frame} {meth : Method} {c : Code} {hh : List (Nat × Nat × Nat × Nat)}
    (B : BodyLoose p l y S cc maxL ret e s m args below meth c s₁) (h : (Cond.codeWith y bytes maxL' ret' hh).before args s = true) : c.exceptionTable.toList = tableOf hh := by
  obtain ⟨m9, meth9, c9, hn9, h1, h2, -, -, h6, -⟩ := Cond.codeWith_spec h
  cases Option.some.inj (hn9.symm.trans B.named)
  cases Option.some.inj (h1.symm.trans B.method)
  cases Option.some.inj (h2.symm.trans (Stand.of_body B).code)
  rw [← h6, table_eq]
end Bodies
end VXA
/-! ===== END ===== -/
/-! ===== BEGIN a static call of a method with an exception table ===== -/
section VXS
variable {p : Program} {l : Launch} {e : Env} {R : Room} {s : State} {m : MethodId} {args : Array Value} {below : List Frame} {meth : Method} {c : Code} {T : State} {H : Heap} {locs : List Loc} {cells slots : Nat}
abbrev vx_CSW (R : Room) (s : State) (args : Array Value) (own : String) (index : Nat) (y : MethodName) (bytes : ByteArray) (maxL : Nat) (ret : Option FieldType) (hh : List (Nat × Nat × Nat × Nat)) (ws : List Cond) (rm : Room) (mc ms n : Nat) : Prop :=
  (rm.cells = mc ∧ rm.slots = ms ∧ rm.frames + 1 ≤ R.frames ∧ 8 + (maxL + 11) + rm.locals ≤ R.locals ∧ (∀ w ∈ ws, ∀ (a' : Array Value) (U : State), s.WarmedH U.vm → w.before a' U = true) ∧ Cond.codeWith y bytes maxL ret hh ∈ ws) ∧
  (Cond.codeWith y bytes maxL ret hh).before args s = true ∧ (Cond.initialized y.cls).before args s = true ∧ (y.cls ≠ "java/lang/invoke/MethodHandle" ∧ y.cls ≠ "java/lang/invoke/VarHandle") ∧
  (∀ sig, parseMethodDescriptor y.desc = some sig → n = sig.parameters.length) ∧ (Cond.methodLink own index y).before args s = true ∧ (Cond.static y).before args s = true
theorem vx_cwSW {own : String} {index maxL mc ms : Nat} {y : MethodName} {bytes : ByteArray} {ret : Option FieldType} {hh : List (Nat × Nat × Nat × Nat)} {Ts ws ws' : List Cond} {rm : Room} (n : Nat) (ht : ∀ w ∈ Ts, w.before args s = true) (hT : GoodIn Ts (va_wsS own index y ws)) (hw : ws = Cond.codeWith y bytes maxL ret hh :: ws') (hrc : rm.cells = mc) (hrs : rm.slots = ms)
    (hd : y.cls ≠ "java/lang/invoke/MethodHandle" ∧ y.cls ≠ "java/lang/invoke/VarHandle" ∧ (parseMethodDescriptor y.desc).map (fun d => d.parameters.length) = some n) (hR : rm.frames + 1 ≤ R.frames ∧ 8 + (maxL + 11) + rm.locals ≤ R.locals) :
    vx_CSW R s args own index y bytes maxL ret hh ws rm mc ms n := by
  have ok : ∀ w ∈ va_wsS own index y ws, w.before args s = true := fun w h => ht w (hT w h).1
  have hG : GoodIn Ts ws := fun w h => hT w (by unfold va_wsS; exact List.mem_append_right _ h)
  have hc : Cond.codeWith y bytes maxL ret hh ∈ ws := by rw [hw]; exact List.mem_cons_self
  refine ⟨⟨hrc, hrs, hR.1, hR.2, pay_in ht hG, hc⟩, ht _ (hG _ hc).1, ok _ (by simp [va_wsS]), ⟨hd.1, hd.2.1⟩, fun sig h => ?_, ok _ (by simp [va_wsS]), ok _ (by simp [va_wsS])⟩
  have h2 := hd.2.2
  rw [h] at h2
  exact (Option.some.inj h2).symm
theorem vx_callSW (X : Stand p l e R s m args below meth c T locs cells slots) (hexec : p.tables.exec = Jvm.exec) {own : String} {index : Nat} {y : MethodName} {bytes : ByteArray} {maxL : Nat} {ret : Option FieldType} {hh : List (Nat × Nat × Nat × Nat)}
    (hown : s.vm.findClass own = some m.cls) (hlink : (Cond.methodLink own index y).before args s = true) (hstat : (Cond.static y).before args s = true) (hinit : (Cond.initialized y.cls).before args s = true)
    (hcode : (Cond.codeWith y bytes maxL ret hh).before args s = true) (hy : y.cls ≠ "java/lang/invoke/MethodHandle" ∧ y.cls ≠ "java/lang/invoke/VarHandle")
    {W9 : Nat} {Pre : Pt → Array Value → Prop} {Post : Pt → Array Value → Option Value → Pt → Prop} (hK : Back l R p e below s args y 3 W9 Pre Post)
    {g : JFrame} (hg : g.method = m) (hsize : g.locals.size = c.maxLocals) {argsL rest : List Value} (hlen : ∀ sig, parseMethodDescriptor y.desc = some sig → argsL.length = sig.parameters.length)
    (hstack : g.stack = argsL.reverse ++ rest) (hW : 2 * g.monitorRoom + (rest.map fun v => v.category).sum ≤ W9) (hdg : decode c.code g.pc = .ok (.invokestatic index, 3))
    (hpre : ∀ vm₁, s.WarmedH vm₁ → Pre ⟨T.setVm vm₁, locs, cells, slots⟩ argsL.toArray) :
    ∃ (v : Option Value) (vm₁ : Vm) (B : Pt), s.WarmedH vm₁ ∧ Stand p l e R s m args below meth c B.U B.locs B.cells B.slots ∧ Post ⟨T.setVm vm₁, locs, cells, slots⟩ argsL.toArray v B ∧
      ∀ target, Steps p.tables e below (B.U.setTop { g with pc := g.pc + 3, stack := v.toList ++ rest }) target → Steps p.tables e below (T.setTop g) target := by
  obtain ⟨mk, methM, cM, hnamed, hmethM, -, -, -, -, -, -, hsigM⟩ := Cond.codeWith_spec hcode
  have hstatic : methM.isStatic = true := Cond.static_spec hnamed hmethM hstat
  obtain ⟨kP, hkP, -⟩ := className_of_methodNamed hnamed
  have hinitP : kP.init = .initialized := Cond.initialized_spec (findClass_of_methodNamed hnamed) hkP hinit
  obtain ⟨vm₁, X₁, hstep₁⟩ := X.invokestatic hexec hown hlink hnamed hmethM hstatic hkP hinitP hy (g := g) hg (argsL := argsL) (rest := rest) (hlen _ hsigM) hstack hdg
  obtain ⟨v, B, X', hpost, hsteps⟩ := hK m meth c ⟨T.setVm vm₁, locs, cells, slots⟩ { g with stack := rest } (.invokestatic index) mk argsL.toArray X₁ hg hsize hdg hW (X₁.named hnamed) (hpre vm₁ X₁.warmed)
  exact ⟨v, vm₁, B, X₁.warmed, X', hpost, fun target h => hstep₁ _ fun acts => by rw [doInvoke_state]; exact hsteps.trans h⟩
theorem vx_runSW {y : MethodName} {bytes cc : ByteArray} {maxL nL mc ms n index : Nat} {ret : Option FieldType} {hh : List (Nat × Nat × Nat × Nat)} {ws : List Cond} {rm : Room} {Pc : Array Value → State → Prop} {Qc : Array Value → State → Outcome → State → Prop} {free : Addr → Prop} {Ts : List Cond} {own : String} {As rest : List Value} {g : JFrame}
    (S : CallFix p m c cc nL s args Ts own) (hM : Met l y ws rm Pc Qc mc ms free) (cw : vx_CSW R s args own index y bytes maxL ret hh ws rm mc ms n) (hp : PreS s H Pc As)
    (hg : g.method = m) (hn : As.length = n) (hsize : g.locals.size = nL) (hstack : g.stack = As.reverse ++ rest) (hW : 2 * g.monitorRoom + (rest.map fun v => v.category).sum ≤ 8) (hdg : decode cc g.pc = .ok (.invokestatic index, 3)) (hf : cells + mc ≤ R.cells ∧ slots + ms ≤ R.slots) :
    va_Run p l e R s m args below meth c H locs cells slots mc ms g rest (Qc As.toArray) (free) := by
  obtain ⟨⟨hrc, hrs, hfr, hlo, hws, hcw⟩, hcode, hini, hy, hlen, hl, hstt⟩ := cw
  have hK : Back l R p e below s args y 3 8 (PreOf R mc ms Pc) (PostOf Qc mc ms free) := va_backW (hh := hh) (bytes := bytes) (maxL := maxL) (ret := ret) hM hp.1 hrc hrs hfr hlo hws hcw (fun a' U hW => word_at hW (Or.inl (by first | rfl | simp [Cond.onTables, Cond.keeps, Cond.steady])) hini)
  obtain ⟨hx, hb, hml, ho, -⟩ := S
  intro T hT X
  obtain ⟨v, vm₁, ⟨U', l2, c2, s2⟩, hW₁, X', ⟨g', mk, t, L, e1, e2, hq, h1, hL, h2, h3⟩, st⟩ := vx_callSW X hx (hh := hh) (bytes := bytes) (maxL := maxL) (ret := ret) ho hl hstt hini hcode hy hK hg (hsize.trans hml.symm) (argsL := As) (rest := rest) (fun sig h => hn.trans (hlen sig h)) hstack hW (by rw [hb]; exact hdg)
    (fun vm₁ hW₁ => ⟨hf.1, hf.2, hp.2 (T.setVm vm₁) hT hW₁⟩)
  dsimp only [Pt.U, Pt.locs, Pt.cells, Pt.slots] at X' e1 e2 h1 h2 h3 st
  subst h1; subst h2; subst h3
  exact ⟨v, (T.setVm vm₁).calling g' mk As.toArray, t, U', L, hT, X', hL, e1, e2, hq, st⟩
/-- not caught here, past rows that name other classes: it goes on to the caller -/
theorem vx_outP {p : Program} {l : Launch} {e : Env} {R : Room} {s : State} {m : MethodId} {args : Array Value} {below : List Frame} {meth : Method} {c : Code} {H : Heap} {locs : List Loc} {cells slots : Nat} {free : Addr → Prop} {ls : Array Slot} {rest : List Value} {Qc : Array Value → State → Outcome → State → Prop} {XC : String → State → State → Prop}
    {pc : Nat} {own E : String} {ce : Cell} {q : Addr} {mc ms : Nat} (hown : s.vm.findClass own = some m.cls) (hlocks : meth.locks = false)
    (hpass : ∀ z ∈ c.exceptionTable.toList, covers z pc = false ∨ (z.catchType ≠ 0 ∧ ∃ nm : String, (Cond.classLink own z.catchType nm).before args s = true ∧ va_Nc E nm s)) (hcell : H[q]? = some ce) (hv : ce.vm = .none) (hcl : s.vm.findClass E = some ce.cls)
    (hx : ∀ t : State, t.heap = H → s.vm.Alike t.vm → XC E s t) (hf : ∀ z ∈ locs, free z.base) (hc : cells ≤ mc) (hs : slots ≤ ms) :
    vx_W p l e R s m args below meth c H locs cells slots (vx_MQ below Qc XC args s mc ms free) (F0 m pc ls rest) q := by
  intro T hT X
  have hpl : e.platform.magicAccessors = ({} : Platform).magicAccessors := by rw [X.admits.platform]
  obtain ⟨vm', hW', X', st⟩ := X.outThrough hlocks q (g := F0 m pc ls rest) rfl rfl rfl (cell := ce) (by rw [hT]; exact hcell) (by rw [hv]; rfl)
    (by obtain ⟨k9, h9, -⟩ := Vm.findClass_spec hcl; exact ⟨k9, h9⟩) (fun z hz => by
      rcases hpass z hz with h | ⟨hz0, nm, hl1, hn1⟩
      · exact Or.inl h
      · obtain ⟨c6, hc6, hcl6⟩ := Cond.classLink_spec hown hl1 e.platform hpl
        obtain ⟨a8, b8, h1, h2, h3⟩ := hn1
        cases Option.some.inj (h1.symm.trans hcl)
        cases Option.some.inj (h2.symm.trans hc6)
        exact Or.inr ⟨hz0, _, hcl6, h3⟩)
  obtain ⟨g₀, hfr⟩ := X'.frames_eq
  have hcell9 : ((T.setVm vm').setFrames (.throwing q :: below)).heap[q]? = some ce := by
    show T.heap[q]? = some ce
    rw [hT]; exact hcell
  have hend : Ended ((T.setVm vm').setFrames (.throwing q :: below)) below (.threw q) := State.frames_setFrames _ (State.cur_lt_of_frames hfr)
  refine ⟨(T.setVm vm').setFrames (.throwing q :: below), ?_, .threw q, X'.here.running, hend, Or.inr ⟨q, rfl, E, ce, locs, hx _ hT (X'.ends _).1.alike, hcell9, hv, hcl, (X'.ends _).1, (X'.ends _).2.mono hc hs, hf⟩⟩
  rw [X.pushThrowing_eq]
  exact st
/-- a thing of a world lies in the heap -/
theorem vx_lt {D : va_G} {cl : List vw_C} {ws : va_W} {H1 : Heap} (h : va_P D cl ws H1) {k : Nat} {q : Nat × va_E} (hk : ws[k]? = some q) : q.1 < H1.size := (h k q hk).lt
end VXS
/-! ===== END ===== -/
/-! ===== BEGIN methods with a table of their own: called by a name, returning or throwing ===== -/
section VXH
/-! vx_backW, vx_callVX, vx_callSX, vx_callVW, vx_runVW, vx_runVX, vx_runSX, vx_ofWH follow the same proofs as their sisters above (Free/Laws.lean, Shelf42/LK1.lean); vx_outP calls Shelf42/NT130.lean (outThrough). -/
section
variable {l : Launch} {R : Room} {p : Program} {e : Env} {below : List Frame} {s : State} {sargs : Array Value} {y : MethodName} {len W9 : Nat}
theorem vx_backW {ws : List Cond} {rm : Room} {Pc : Array Value → State → Prop} {Qc : Array Value → State → Outcome → State → Prop} {XC : String → State → State → Prop} {mc ms : Nat} {free : Addr → Prop} {bytes : ByteArray} {maxL : Nat} {ret : Option FieldType} {hh : List (Nat × Nat × Nat × Nat)}
    (hM : vx_Met l y ws rm Pc Qc XC mc ms free) (hblind : FrameBlind Pc) (hrc : rm.cells = mc) (hrs : rm.slots = ms)
    (hframes : rm.frames + 1 ≤ R.frames) (hlocals : W9 + (maxL + 11) + rm.locals ≤ R.locals)
    (hws : ∀ w ∈ ws, ∀ a' U, s.WarmedH U.vm → w.before a' U = true) (hcode : Cond.codeWith y bytes maxL ret hh ∈ ws) (hinit : ∀ a' U, s.WarmedH U.vm → (Cond.initialized y.cls).before a' U = true) :
    vx_Back l R p e below s sargs y len W9 (PreOf R mc ms Pc) (PostOf Qc mc ms free) (vx_Post XC mc ms free) := by
  intro m meth c A g ig mk a X hg hsize hdg hW hn hp
  have h1 : (headSpec ws rm).pre.before a A.U = true := atoms_intro fun w hw => hws w hw _ _ X.warmed
  have h2 : (Cond.codeWith y bytes maxL ret hh).before a A.U = true := hws _ hcode _ _ X.warmed
  have h3 : (Cond.initialized y.cls).before a A.U = true := hinit _ _ X.warmed
  have h4 : A.cells + (headSpec ws rm).room.cells ≤ R.cells := by rw [show (headSpec ws rm).room.cells = mc from hrc]; exact hp.1
  have h5 : A.slots + (headSpec ws rm).room.slots ≤ R.slots := by rw [show (headSpec ws rm).room.slots = ms from hrs]; exact hp.2.1
  have hPc : Pc a (A.U.calling g mk a) := hblind _ _ _ _ hp.2.2
  obtain ⟨U, Ls, c0, s0⟩ := A
  dsimp only [Pt.U, Pt.locs, Pt.cells, Pt.slots] at h1 h2 h3 h4 h5 X hn hPc ⊢
  obtain ⟨m9, methY, cY, hn9, hmY, hcY, -, hlY, -⟩ := Cond.codeWith_spec h2
  cases Option.some.inj (hn9.symm.trans hn)
  obtain ⟨kY, hkY, -⟩ := className_of_methodNamed hn
  have hinitY : kY.init = .initialized := Cond.initialized_spec (findClass_of_methodNamed hn) hkY h3
  have h : At U g.method c below := by rw [hg]; exact X.here
  have hlocals9 : W9 + (maxL + 11) + (headSpec ws rm).room.locals ≤ R.locals := hlocals
  have happ : (headSpec ws rm).appliesLoose y e.platform (U.calling g mk a) = true :=
    Spec.appliesLoose_calling (g := g) h hdg hn hkY hinitY
      (X.room_calling (g := g) (R' := (headSpec ws rm).room) hsize hmY hcY hframes (by rw [hlY]; omega) h4 h5) h1
  obtain ⟨mid, hmid⟩ := h.above
  have hfr : (U.setTop g).frames = (.java g :: mid) ++ below := by rw [State.frames_setTop' g h.top, hmid]; rfl
  obtain ⟨o, s₂, hsteps, -, hend, hq⟩ := Steps.callFree hM p X.admits X.cas X.clock (acts := []) hfr happ hPc trivial
  have hq' : vx_Q Qc XC mc ms free a (U.calling g mk a) o s₂ := hq
  rw [State.frames_setTop' g h.top] at hend
  obtain ⟨g₀, hg0⟩ := Option.isSome_iff_exists.mp h.top
  obtain ⟨r, hr⟩ := State.topJava?_eq_some.mp hg0
  have hr' : (({ U with heap := s₂.heap, slotsUsed := s₂.slotsUsed } : State).setVm s₂.vm).frames = .java g₀ :: r := hr
  rcases hq' with ⟨hqc, L, hfe, hL⟩ | ⟨q, rfl, E, ce, L, hx, hce, hcv, hcl, hW₂, hsm, hL⟩
  · obtain ⟨⟨v, rfl⟩, hW₂, e2, q2, q3, q4, q5, q6⟩ := id hfe
    have e3 : s₂ = ({ (U.calling g mk a).setFrames s₂.frames with heap := s₂.heap, slotsUsed := s₂.slotsUsed } : State).setVm s₂.vm := by
      have : s₂ = ({ s₂ with vm := (U.calling g mk a).vm } : State).setVm s₂.vm := rfl
      rw [e2] at this
      exact this
    obtain ⟨c₂, i₂, len₂, hc₂, hd₂, hf₂⟩ := hend
    have hW' : U.WarmedH s₂.vm := hW₂
    have hcc : c₂ = c := by
      have h1 : s₂.code? g.method = U.code? g.method := by
        rw [State.code?_eq, State.code?_eq, hW'.alike.method?]
      exact Option.some.inj (hc₂.symm.trans (h1.trans h.code))
    subst hcc
    have hlen : len₂ = len := by rw [hdg] at hd₂; cases hd₂; rfl
    subst hlen
    have hs₂ : s₂ = (({ U with heap := s₂.heap, slotsUsed := s₂.slotsUsed } : State).setVm s₂.vm).setTop { g with pc := g.pc + len₂, stack := v.toList ++ g.stack } := by
      refine e3.trans ?_
      rw [hf₂, State.calling_eq h.top, State.setFrames_setFrames, State.setTop_of_frames _ hr', hr]
      rfl
    have hsame : U.sameButNew ({ U with heap := s₂.heap, slotsUsed := s₂.slotsUsed } : State) L mc ms := by
      refine ⟨?_, q2, q3, q4, q5, q6⟩
      obtain ⟨t, ht, -⟩ := State.frames_cons hr
      show ({ U with heap := s₂.heap, slotsUsed := s₂.slotsUsed } : State) = { U.setFrames U.frames with heap := s₂.heap, slotsUsed := s₂.slotsUsed }
      rw [State.setFrames_self ht]
    subst hg
    refine Or.inl ⟨v, ⟨(({ U with heap := s₂.heap, slotsUsed := s₂.slotsUsed } : State).setVm s₂.vm), Ls ++ L, c0 + mc, s0 + ms⟩,
      ⟨X.admits, X.cas, X.clock, X.frames, X.room, X.hears, X.method, X.code, (X.here.setHeapUsed s₂.heap s₂.slotsUsed).setVm hW'.alike, X.tail, State.WarmedH.trans X.warmed hW', X.limits, X.bytes, X.same.trans (hsame.setVm s.vm)⟩,
      ⟨g, mk, s₂, L, rfl, rfl, hqc, rfl, hL, rfl, rfl⟩, ?_⟩
    show Steps p.tables e below _ ((({ U with heap := s₂.heap, slotsUsed := s₂.slotsUsed } : State).setVm s₂.vm).setTop { g with pc := g.pc + len₂, stack := v.toList ++ g.stack })
    rw [← hs₂]
    exact hsteps
  · obtain ⟨e2, q2, q3, q4, q5, q6⟩ := id hsm
    have e3 : s₂ = ({ (U.calling g mk a).setFrames s₂.frames with heap := s₂.heap, slotsUsed := s₂.slotsUsed } : State).setVm s₂.vm := by
      have : s₂ = ({ s₂ with vm := (U.calling g mk a).vm } : State).setVm s₂.vm := rfl
      rw [e2] at this
      exact this
    have hf₂ : s₂.frames = .throwing q :: .java g :: U.frames.tail := hend
    have hW' : U.WarmedH s₂.vm := hW₂
    have hs₂ : s₂ = ((({ U with heap := s₂.heap, slotsUsed := s₂.slotsUsed } : State).setVm s₂.vm).setTop g).pushFrame (.throwing q) := by
      refine e3.trans ?_
      rw [hf₂, State.calling_eq h.top, State.setFrames_setFrames, State.pushFrame, State.frames_setTop _ hr', State.setTop_of_frames _ hr', State.setFrames_setFrames, hr]
      rfl
    have hsame : U.sameButNew ({ U with heap := s₂.heap, slotsUsed := s₂.slotsUsed } : State) L mc ms := by
      refine ⟨?_, q2, q3, q4, q5, q6⟩
      obtain ⟨t, ht, -⟩ := State.frames_cons hr
      show ({ U with heap := s₂.heap, slotsUsed := s₂.slotsUsed } : State) = { U.setFrames U.frames with heap := s₂.heap, slotsUsed := s₂.slotsUsed }
      rw [State.setFrames_self ht]
    subst hg
    refine Or.inr ⟨q, ⟨(({ U with heap := s₂.heap, slotsUsed := s₂.slotsUsed } : State).setVm s₂.vm), Ls ++ L, c0 + mc, s0 + ms⟩,
      ⟨X.admits, X.cas, X.clock, X.frames, X.room, X.hears, X.method, X.code, (X.here.setHeapUsed s₂.heap s₂.slotsUsed).setVm hW'.alike, X.tail, State.WarmedH.trans X.warmed hW', X.limits, X.bytes, X.same.trans (hsame.setVm s.vm)⟩,
      ⟨g, mk, s₂, L, E, ce, rfl, rfl, hx, hce, hcv, hcl, rfl, hL, rfl, rfl⟩, ?_⟩
    show Steps p.tables e below _ (((({ U with heap := s₂.heap, slotsUsed := s₂.slotsUsed } : State).setVm s₂.vm).setTop g).pushFrame (.throwing q))
    rw [← hs₂]
    exact hsteps
end
variable {p : Program} {l : Launch} {e : Env} {R : Room} {s : State} {m : MethodId} {args : Array Value} {below : List Frame} {meth : Method} {c : Code} {T : State} {H : Heap} {locs : List Loc} {cells slots : Nat}
theorem vx_callVX (X : Stand p l e R s m args below meth c T locs cells slots) (hexec : p.tables.exec = Jvm.exec) {own C : String} {index : Nat} {y : MethodName} {bytes : ByteArray} {maxL : Nat} {ret : Option FieldType} {hh : List (Nat × Nat × Nat × Nat)}
    (hown : s.vm.findClass own = some m.cls) (hlink : (Cond.methodLink own index y).before args s = true) (hinst : (Cond.instanceMethod y).before args s = true) (hsel : (Cond.selects C y y).before args s = true)
    (hcode : (Cond.codeWith y bytes maxL ret hh).before args s = true) (hy : y.cls ≠ "java/lang/invoke/MethodHandle" ∧ y.cls ≠ "java/lang/invoke/VarHandle")
    {W9 : Nat} {Pre : Pt → Array Value → Prop} {Post : Pt → Array Value → Option Value → Pt → Prop} {PostX : Pt → Array Value → Addr → Pt → Prop} (hK : vx_Back l R p e below s args y 3 W9 Pre Post PostX)
    {b : Addr} {cellB : Cell} (hcell : T.heap[b]? = some cellB) (hobj : cellB.vm.isStatics = false) (hcls : s.vm.findClass C = some cellB.cls)
    {g : JFrame} (hg : g.method = m) (hsize : g.locals.size = c.maxLocals) {argsL rest : List Value} (hlen : ∀ sig, parseMethodDescriptor y.desc = some sig → argsL.length = sig.parameters.length)
    (hstack : g.stack = argsL.reverse ++ .ref b :: rest) (hW : 2 * g.monitorRoom + (rest.map fun v => v.category).sum ≤ W9) (hdg : decode c.code g.pc = .ok (.invokevirtual index, 3))
    (hpre : ∀ vm₁, s.WarmedH vm₁ → Pre ⟨T.setVm vm₁, locs, cells, slots⟩ (Value.ref b :: argsL).toArray) :
    (∃ (v : Option Value) (vm₁ : Vm) (B : Pt), s.WarmedH vm₁ ∧ Stand p l e R s m args below meth c B.U B.locs B.cells B.slots ∧ Post ⟨T.setVm vm₁, locs, cells, slots⟩ (Value.ref b :: argsL).toArray v B ∧
      ∀ target, Steps p.tables e below (B.U.setTop { g with pc := g.pc + 3, stack := v.toList ++ rest }) target → Steps p.tables e below (T.setTop g) target) ∨
    (∃ (q : Addr) (vm₁ : Vm) (B : Pt), s.WarmedH vm₁ ∧ Stand p l e R s m args below meth c B.U B.locs B.cells B.slots ∧ PostX ⟨T.setVm vm₁, locs, cells, slots⟩ (Value.ref b :: argsL).toArray q B ∧
      Steps p.tables e below (T.setTop g) ((B.U.setTop { g with stack := rest }).pushFrame (.throwing q))) := by
  obtain ⟨mk, methM, hnamed, hmethM, hstM, habM⟩ := Cond.instanceMethod_spec hinst
  obtain ⟨m8, methM', cM, hn8, hmethM', -, -, -, -, -, -, hsigM⟩ := Cond.codeWith_spec hcode
  cases Option.some.inj (hn8.symm.trans hnamed)
  cases hmethM.symm.trans hmethM'
  obtain ⟨c2, r2, m2, q1, q2, q3, q4, kP, hkP, hkPi⟩ := Cond.selects_spec hsel
  cases hcls.symm.trans q1
  cases (State.methodFound?_of_named hnamed hy).symm.trans q2
  cases hnamed.symm.trans q3
  have hselP : selectMethod e.platform s.vm cellB.cls mk = .method mk := by rw [Launch.admits_selectMethod X.admits]; exact q4
  obtain ⟨vm₁, X₁, hstep₁⟩ := X.invokevirtual hexec hown hlink hnamed hmethM hstM hkP hkPi hy (a := b) (cell := cellB) hcell
    (fun z h => by rw [h] at hobj; cases hobj) hselP hmethM habM hkP hkPi (g := g) hg (argsL := argsL) (rest := rest) (hlen _ hsigM) hstack hdg
  rcases hK m meth c ⟨T.setVm vm₁, locs, cells, slots⟩ { g with stack := rest } (.invokevirtual index) mk (Value.ref b :: argsL).toArray X₁ hg hsize hdg hW (X₁.named hnamed) (hpre vm₁ X₁.warmed) with ⟨v, B, X', hpost, hsteps⟩ | ⟨q, B, X', hpost, hsteps⟩
  · exact Or.inl ⟨v, vm₁, B, X₁.warmed, X', hpost, fun target h => hstep₁ _ fun acts => by rw [doInvoke_state]; exact hsteps.trans h⟩
  · exact Or.inr ⟨q, vm₁, B, X₁.warmed, X', hpost, hstep₁ _ fun acts => by rw [doInvoke_state]; exact hsteps⟩
theorem vx_callSX (X : Stand p l e R s m args below meth c T locs cells slots) (hexec : p.tables.exec = Jvm.exec) {own : String} {index : Nat} {y : MethodName} {bytes : ByteArray} {maxL : Nat} {ret : Option FieldType} {hh : List (Nat × Nat × Nat × Nat)}
    (hown : s.vm.findClass own = some m.cls) (hlink : (Cond.methodLink own index y).before args s = true) (hstat : (Cond.static y).before args s = true) (hinit : (Cond.initialized y.cls).before args s = true)
    (hcode : (Cond.codeWith y bytes maxL ret hh).before args s = true) (hy : y.cls ≠ "java/lang/invoke/MethodHandle" ∧ y.cls ≠ "java/lang/invoke/VarHandle")
    {W9 : Nat} {Pre : Pt → Array Value → Prop} {Post : Pt → Array Value → Option Value → Pt → Prop} {PostX : Pt → Array Value → Addr → Pt → Prop} (hK : vx_Back l R p e below s args y 3 W9 Pre Post PostX)
    {g : JFrame} (hg : g.method = m) (hsize : g.locals.size = c.maxLocals) {argsL rest : List Value} (hlen : ∀ sig, parseMethodDescriptor y.desc = some sig → argsL.length = sig.parameters.length)
    (hstack : g.stack = argsL.reverse ++ rest) (hW : 2 * g.monitorRoom + (rest.map fun v => v.category).sum ≤ W9) (hdg : decode c.code g.pc = .ok (.invokestatic index, 3))
    (hpre : ∀ vm₁, s.WarmedH vm₁ → Pre ⟨T.setVm vm₁, locs, cells, slots⟩ argsL.toArray) :
    (∃ (v : Option Value) (vm₁ : Vm) (B : Pt), s.WarmedH vm₁ ∧ Stand p l e R s m args below meth c B.U B.locs B.cells B.slots ∧ Post ⟨T.setVm vm₁, locs, cells, slots⟩ argsL.toArray v B ∧
      ∀ target, Steps p.tables e below (B.U.setTop { g with pc := g.pc + 3, stack := v.toList ++ rest }) target → Steps p.tables e below (T.setTop g) target) ∨
    (∃ (q : Addr) (vm₁ : Vm) (B : Pt), s.WarmedH vm₁ ∧ Stand p l e R s m args below meth c B.U B.locs B.cells B.slots ∧ PostX ⟨T.setVm vm₁, locs, cells, slots⟩ argsL.toArray q B ∧
      Steps p.tables e below (T.setTop g) ((B.U.setTop { g with stack := rest }).pushFrame (.throwing q))) := by
  obtain ⟨mk, methM, cM, hnamed, hmethM, -, -, -, -, -, -, hsigM⟩ := Cond.codeWith_spec hcode
  have hstatic : methM.isStatic = true := Cond.static_spec hnamed hmethM hstat
  obtain ⟨kP, hkP, -⟩ := className_of_methodNamed hnamed
  have hinitP : kP.init = .initialized := Cond.initialized_spec (findClass_of_methodNamed hnamed) hkP hinit
  obtain ⟨vm₁, X₁, hstep₁⟩ := X.invokestatic hexec hown hlink hnamed hmethM hstatic hkP hinitP hy (g := g) hg (argsL := argsL) (rest := rest) (hlen _ hsigM) hstack hdg
  rcases hK m meth c ⟨T.setVm vm₁, locs, cells, slots⟩ { g with stack := rest } (.invokestatic index) mk argsL.toArray X₁ hg hsize hdg hW (X₁.named hnamed) (hpre vm₁ X₁.warmed) with ⟨v, B, X', hpost, hsteps⟩ | ⟨q, B, X', hpost, hsteps⟩
  · exact Or.inl ⟨v, vm₁, B, X₁.warmed, X', hpost, fun target h => hstep₁ _ fun acts => by rw [doInvoke_state]; exact hsteps.trans h⟩
  · exact Or.inr ⟨q, vm₁, B, X₁.warmed, X', hpost, hstep₁ _ fun acts => by rw [doInvoke_state]; exact hsteps⟩
theorem vx_callVW (X : Stand p l e R s m args below meth c T locs cells slots) (hexec : p.tables.exec = Jvm.exec) {own C : String} {index : Nat} {y : MethodName} {bytes : ByteArray} {maxL : Nat} {ret : Option FieldType} {hh : List (Nat × Nat × Nat × Nat)}
    (hown : s.vm.findClass own = some m.cls) (hlink : (Cond.methodLink own index y).before args s = true) (hinst : (Cond.instanceMethod y).before args s = true) (hsel : (Cond.selects C y y).before args s = true)
    (hcode : (Cond.codeWith y bytes maxL ret hh).before args s = true) (hy : y.cls ≠ "java/lang/invoke/MethodHandle" ∧ y.cls ≠ "java/lang/invoke/VarHandle")
    {W9 : Nat} {Pre : Pt → Array Value → Prop} {Post : Pt → Array Value → Option Value → Pt → Prop} (hK : Back l R p e below s args y 3 W9 Pre Post)
    {b : Addr} {cellB : Cell} (hcell : T.heap[b]? = some cellB) (hobj : cellB.vm.isStatics = false) (hcls : s.vm.findClass C = some cellB.cls)
    {g : JFrame} (hg : g.method = m) (hsize : g.locals.size = c.maxLocals) {argsL rest : List Value} (hlen : ∀ sig, parseMethodDescriptor y.desc = some sig → argsL.length = sig.parameters.length)
    (hstack : g.stack = argsL.reverse ++ .ref b :: rest) (hW : 2 * g.monitorRoom + (rest.map fun v => v.category).sum ≤ W9) (hdg : decode c.code g.pc = .ok (.invokevirtual index, 3))
    (hpre : ∀ vm₁, s.WarmedH vm₁ → Pre ⟨T.setVm vm₁, locs, cells, slots⟩ (Value.ref b :: argsL).toArray) :
    ∃ (v : Option Value) (vm₁ : Vm) (B : Pt), s.WarmedH vm₁ ∧ Stand p l e R s m args below meth c B.U B.locs B.cells B.slots ∧ Post ⟨T.setVm vm₁, locs, cells, slots⟩ (Value.ref b :: argsL).toArray v B ∧
      ∀ target, Steps p.tables e below (B.U.setTop { g with pc := g.pc + 3, stack := v.toList ++ rest }) target → Steps p.tables e below (T.setTop g) target := by
  obtain ⟨mk, methM, hnamed, hmethM, hstM, habM⟩ := Cond.instanceMethod_spec hinst
  obtain ⟨m8, methM', cM, hn8, hmethM', -, -, -, -, -, -, hsigM⟩ := Cond.codeWith_spec hcode
  cases Option.some.inj (hn8.symm.trans hnamed)
  cases hmethM.symm.trans hmethM'
  obtain ⟨c2, r2, m2, q1, q2, q3, q4, kP, hkP, hkPi⟩ := Cond.selects_spec hsel
  cases hcls.symm.trans q1
  cases (State.methodFound?_of_named hnamed hy).symm.trans q2
  cases hnamed.symm.trans q3
  have hselP : selectMethod e.platform s.vm cellB.cls mk = .method mk := by rw [Launch.admits_selectMethod X.admits]; exact q4
  obtain ⟨vm₁, X₁, hstep₁⟩ := X.invokevirtual hexec hown hlink hnamed hmethM hstM hkP hkPi hy (a := b) (cell := cellB) hcell
    (fun z h => by rw [h] at hobj; cases hobj) hselP hmethM habM hkP hkPi (g := g) hg (argsL := argsL) (rest := rest) (hlen _ hsigM) hstack hdg
  obtain ⟨v, B, X', hpost, hsteps⟩ := hK m meth c ⟨T.setVm vm₁, locs, cells, slots⟩ { g with stack := rest } (.invokevirtual index) mk (Value.ref b :: argsL).toArray X₁ hg hsize hdg hW (X₁.named hnamed) (hpre vm₁ X₁.warmed)
  exact ⟨v, vm₁, B, X₁.warmed, X', hpost, fun target h => hstep₁ _ fun acts => by rw [doInvoke_state]; exact hsteps.trans h⟩
abbrev vx_CVW (R : Room) (s : State) (args : Array Value) (own C : String) (index : Nat) (y : MethodName) (bytes : ByteArray) (maxL : Nat) (ret : Option FieldType) (hh : List (Nat × Nat × Nat × Nat)) (ws : List Cond) (rm : Room) (mc ms n : Nat) : Prop :=
  (rm.cells = mc ∧ rm.slots = ms ∧ rm.frames + 1 ≤ R.frames ∧ 8 + (maxL + 11) + rm.locals ≤ R.locals ∧ (∀ w ∈ ws, ∀ (a' : Array Value) (U : State), s.WarmedH U.vm → w.before a' U = true) ∧ Cond.codeWith y bytes maxL ret hh ∈ ws) ∧
  (Cond.codeWith y bytes maxL ret hh).before args s = true ∧ (Cond.initialized y.cls).before args s = true ∧ (y.cls ≠ "java/lang/invoke/MethodHandle" ∧ y.cls ≠ "java/lang/invoke/VarHandle") ∧
  (∀ sig, parseMethodDescriptor y.desc = some sig → n = sig.parameters.length) ∧ (Cond.methodLink own index y).before args s = true ∧ (Cond.instanceMethod y).before args s = true ∧ (Cond.selects C y y).before args s = true
theorem vx_cwVW {own C : String} {index maxL mc ms : Nat} {y : MethodName} {bytes : ByteArray} {ret : Option FieldType} {hh : List (Nat × Nat × Nat × Nat)} {Ts ws ws' : List Cond} {rm : Room} (n : Nat) (ht : ∀ w ∈ Ts, w.before args s = true) (hT : GoodIn Ts (wsV own index C y ws)) (hw : ws = Cond.codeWith y bytes maxL ret hh :: ws') (hrc : rm.cells = mc) (hrs : rm.slots = ms)
    (hd : y.cls = C ∧ y.cls ≠ "java/lang/invoke/MethodHandle" ∧ y.cls ≠ "java/lang/invoke/VarHandle" ∧ (parseMethodDescriptor y.desc).map (fun d => d.parameters.length) = some n) (hR : rm.frames + 1 ≤ R.frames ∧ 8 + (maxL + 11) + rm.locals ≤ R.locals) :
    vx_CVW R s args own C index y bytes maxL ret hh ws rm mc ms n := by
  obtain ⟨hC, hd⟩ := hd
  subst hC
  have ok : ∀ w ∈ wsV own index y.cls y ws, w.before args s = true := fun w h => ht w (hT w h).1
  have hG : GoodIn Ts ws := fun w h => hT w (by unfold wsV; exact List.mem_append_right _ h)
  have hc : Cond.codeWith y bytes maxL ret hh ∈ ws := by rw [hw]; exact List.mem_cons_self
  refine ⟨⟨hrc, hrs, hR.1, hR.2, pay_in ht hG, hc⟩, ht _ (hG _ hc).1, ok _ (by simp [wsV]), ⟨hd.1, hd.2.1⟩, fun sig h => ?_, ok _ (by simp [wsV]), ok _ (by simp [wsV]), ok _ (by simp [wsV])⟩
  have h2 := hd.2.2
  rw [h] at h2
  exact (Option.some.inj h2).symm
theorem vx_runVW {y : MethodName} {bytes cc : ByteArray} {maxL nL mc ms n index : Nat} {ret : Option FieldType} {hh : List (Nat × Nat × Nat × Nat)} {ws : List Cond} {rm : Room} {Pc : Array Value → State → Prop} {Qc : Array Value → State → Outcome → State → Prop} {free : Addr → Prop} {Ts : List Cond} {own C : String} {b : Addr} {As rest : List Value} {g : JFrame}
    (S : CallFix p m c cc nL s args Ts own) (hM : Met l y ws rm Pc Qc mc ms free) (cw : vx_CVW R s args own C index y bytes maxL ret hh ws rm mc ms n) (hp : PreV s H C b Pc As)
    (hg : g.method = m) (hn : As.length = n) (hsize : g.locals.size = nL) (hstack : g.stack = As.reverse ++ .ref b :: rest) (hW : 2 * g.monitorRoom + (rest.map fun v => v.category).sum ≤ 8) (hdg : decode cc g.pc = .ok (.invokevirtual index, 3)) (hf : cells + mc ≤ R.cells ∧ slots + ms ≤ R.slots) :
    va_Run p l e R s m args below meth c H locs cells slots mc ms g rest (Qc (Value.ref b :: As).toArray) free := by
  obtain ⟨⟨hrc, hrs, hfr, hlo, hws, hcw⟩, hcode, hini, hy, hlen, hl, hin, hse⟩ := cw
  have hK : Back l R p e below s args y 3 8 (PreOf R mc ms Pc) (PostOf Qc mc ms free) := va_backW (hh := hh) (bytes := bytes) (maxL := maxL) (ret := ret) hM hp.1 hrc hrs hfr hlo hws hcw (fun a' U hW => word_at hW (Or.inl (by first | rfl | simp [Cond.onTables, Cond.keeps, Cond.steady])) hini)
  obtain ⟨hx, hb, hml, ho, -⟩ := S
  obtain ⟨-, ⟨cellB, hcB, hoB, hclB⟩, hPc⟩ := hp
  intro T hT X
  obtain ⟨v, vm₁, ⟨U', l2, c2, s2⟩, hW₁, X', ⟨g', mk, t, L, e1, e2, hq, h1, hL, h2, h3⟩, st⟩ := vx_callVW X hx (C := C) (hh := hh) (bytes := bytes) (maxL := maxL) (ret := ret) ho hl hin hse hcode hy hK (by rw [hT]; exact hcB) hoB hclB hg (hsize.trans hml.symm) (argsL := As) (rest := rest) (fun sig h => hn.trans (hlen sig h)) hstack hW (by rw [hb]; exact hdg)
    (fun vm₁ hW₁ => ⟨hf.1, hf.2, hPc (T.setVm vm₁) hT hW₁⟩)
  dsimp only [Pt.U, Pt.locs, Pt.cells, Pt.slots] at X' e1 e2 h1 h2 h3 st
  subst h1; subst h2; subst h3
  exact ⟨v, (T.setVm vm₁).calling g' mk (Value.ref b :: As).toArray, t, U', L, hT, X', hL, e1, e2, hq, st⟩
section
variable {y : MethodName} {bytes cc : ByteArray} {maxL nL mc ms n index : Nat} {ret : Option FieldType} {ws : List Cond} {rm : Room} {Pc : Array Value → State → Prop} {Qc : Array Value → State → Outcome → State → Prop} {XC : String → State → State → Prop} {free : Addr → Prop} {Ts : List Cond} {own C : String} {b : Addr} {As rest : List Value} {g : JFrame}
theorem vx_runVX {hh : List (Nat × Nat × Nat × Nat)} (S : CallFix p m c cc nL s args Ts own) (hM : vx_Met l y ws rm Pc Qc XC mc ms free) (cw : vx_CVW R s args own C index y bytes maxL ret hh ws rm mc ms n) (hp : PreV s H C b Pc As)
    (hg : g.method = m) (hn : As.length = n) (hsize : g.locals.size = nL) (hstack : g.stack = As.reverse ++ .ref b :: rest) (hW : 2 * g.monitorRoom + (rest.map fun v => v.category).sum ≤ 8) (hdg : decode cc g.pc = .ok (.invokevirtual index, 3)) (hf : cells + mc ≤ R.cells ∧ slots + ms ≤ R.slots) :
    vx_Run p l e R s m args below meth c H locs cells slots mc ms g rest (Qc (Value.ref b :: As).toArray) XC free := by
  obtain ⟨⟨hrc, hrs, hfr, hlo, hws, hcw⟩, hcode, hini, hy, hlen, hl, hin, hse⟩ := cw
  have hK : vx_Back l R p e below s args y 3 8 (PreOf R mc ms Pc) (PostOf Qc mc ms free) (vx_Post XC mc ms free) := vx_backW (hh := hh) (bytes := bytes) (maxL := maxL) (ret := ret) hM hp.1 hrc hrs hfr hlo hws hcw (fun a' U hW => word_at hW (Or.inl (by first | rfl | simp [Cond.onTables, Cond.keeps, Cond.steady])) hini)
  obtain ⟨hx, hb, hml, ho, -⟩ := S
  obtain ⟨-, ⟨cellB, hcB, hoB, hclB⟩, hPc⟩ := hp
  intro T hT X
  rcases vx_callVX X hx (C := C) (hh := hh) (bytes := bytes) (maxL := maxL) (ret := ret) ho hl hin hse hcode hy hK (by rw [hT]; exact hcB) hoB hclB hg (hsize.trans hml.symm) (argsL := As) (rest := rest) (fun sig h => hn.trans (hlen sig h)) hstack hW (by rw [hb]; exact hdg)
    (fun vm₁ hW₁ => ⟨hf.1, hf.2, hPc (T.setVm vm₁) hT hW₁⟩) with ⟨v, vm₁, ⟨U', l2, c2, s2⟩, hW₁, X', ⟨g', mk, t, L, e1, e2, hq, h1, hL, h2, h3⟩, st⟩ | ⟨q, vm₁, ⟨U', l2, c2, s2⟩, hW₁, X', ⟨g', mk, t, L, E, ce, e1, e2, hq, hce, hcv, hcl, h1, hL, h2, h3⟩, st⟩
  · dsimp only [Pt.U, Pt.locs, Pt.cells, Pt.slots] at X' e1 e2 h1 h2 h3 st
    subst h1; subst h2; subst h3
    exact Or.inl ⟨v, (T.setVm vm₁).calling g' mk (Value.ref b :: As).toArray, t, U', L, hT, X', hL, e1, e2, hq, st⟩
  · dsimp only [Pt.U, Pt.locs, Pt.cells, Pt.slots] at X' e1 e2 h1 h2 h3 st hcl
    subst h1; subst h2; subst h3
    exact Or.inr ⟨q, (T.setVm vm₁).calling g' mk (Value.ref b :: As).toArray, t, U', L, E, ce, hT, X', hL, e1, e2, hq, hce, hcv, vx_cls hW₁ hcl, st⟩
theorem vx_runSX {hh : List (Nat × Nat × Nat × Nat)} (S : CallFix p m c cc nL s args Ts own) (hM : vx_Met l y ws rm Pc Qc XC mc ms free) (cw : vx_CSW R s args own index y bytes maxL ret hh ws rm mc ms n) (hp : PreS s H Pc As)
    (hg : g.method = m) (hn : As.length = n) (hsize : g.locals.size = nL) (hstack : g.stack = As.reverse ++ rest) (hW : 2 * g.monitorRoom + (rest.map fun v => v.category).sum ≤ 8) (hdg : decode cc g.pc = .ok (.invokestatic index, 3)) (hf : cells + mc ≤ R.cells ∧ slots + ms ≤ R.slots) :
    vx_Run p l e R s m args below meth c H locs cells slots mc ms g rest (Qc As.toArray) XC free := by
  obtain ⟨⟨hrc, hrs, hfr, hlo, hws, hcw⟩, hcode, hini, hy, hlen, hl, hstt⟩ := cw
  have hK : vx_Back l R p e below s args y 3 8 (PreOf R mc ms Pc) (PostOf Qc mc ms free) (vx_Post XC mc ms free) := vx_backW (hh := hh) (bytes := bytes) (maxL := maxL) (ret := ret) hM hp.1 hrc hrs hfr hlo hws hcw (fun a' U hW => word_at hW (Or.inl (by first | rfl | simp [Cond.onTables, Cond.keeps, Cond.steady])) hini)
  obtain ⟨hx, hb, hml, ho, -⟩ := S
  intro T hT X
  rcases vx_callSX X hx (hh := hh) (bytes := bytes) (maxL := maxL) (ret := ret) ho hl hstt hini hcode hy hK hg (hsize.trans hml.symm) (argsL := As) (rest := rest) (fun sig h => hn.trans (hlen sig h)) hstack hW (by rw [hb]; exact hdg)
    (fun vm₁ hW₁ => ⟨hf.1, hf.2, hp.2 (T.setVm vm₁) hT hW₁⟩) with ⟨v, vm₁, ⟨U', l2, c2, s2⟩, hW₁, X', ⟨g', mk, t, L, e1, e2, hq, h1, hL, h2, h3⟩, st⟩ | ⟨q, vm₁, ⟨U', l2, c2, s2⟩, hW₁, X', ⟨g', mk, t, L, E, ce, e1, e2, hq, hce, hcv, hcl, h1, hL, h2, h3⟩, st⟩
  · dsimp only [Pt.U, Pt.locs, Pt.cells, Pt.slots] at X' e1 e2 h1 h2 h3 st
    subst h1; subst h2; subst h3
    exact Or.inl ⟨v, (T.setVm vm₁).calling g' mk As.toArray, t, U', L, hT, X', hL, e1, e2, hq, st⟩
  · dsimp only [Pt.U, Pt.locs, Pt.cells, Pt.slots] at X' e1 e2 h1 h2 h3 st hcl
    subst h1; subst h2; subst h3
    exact Or.inr ⟨q, (T.setVm vm₁).calling g' mk As.toArray, t, U', L, E, ce, hT, X', hL, e1, e2, hq, hce, hcv, vx_cls hW₁ hcl, st⟩
end
end VXH
theorem vx_ofWH {l : Launch} {y : MethodName} {ws ws' : List Cond} {rm : Room} {Pc : Array Value → State → Prop} {Qc : Array Value → State → Outcome → State → Prop} {XC : String → State → State → Prop} {mc ms : Nat} {free : Addr → Prop} {cc : ByteArray} {maxL : Nat} {ret : Option FieldType} {hh : List (Nat × Nat × Nat × Nat)}
    (hy : plainName y.cls = true) (hw : ws = Cond.codeWith y cc maxL ret hh :: ws')
    (body : ∀ p e s m args below meth c s₁, BodyLoose p l y (headSpec ws rm) cc maxL ret e s m args below meth c s₁ → c.maxLocals = maxL → Pc args s →
      W p l e (headSpec ws rm).room s m args below meth c s.heap [] 0 0 (vx_MQ below Qc XC args s mc ms free) (entryFrame m args maxL)) : vx_Met l y ws rm Pc Qc XC mc ms free := by
  refine MetFree.of_bodyS (code := cc) (maxLocals := maxL) (ret := ret) hy ?_ ?_
  · intro args s m h hn
    obtain ⟨m9, meth, c, hn9, h1, h2, h3, h4, -, h5, h6, -⟩ := Cond.codeWith_spec (atoms_spec (ws := ws) h _ (by rw [hw]; exact List.mem_cons_self))
    cases hn.symm.trans hn9
    exact ⟨meth, c, h1, h2, h3, h4, h5, h6⟩
  · intro p e s m args below meth c s₁ B hml hP _
    have hh0 : s₁.heap = s.heap := by rw [B.state]; rfl
    obtain ⟨t, a1, o, b1, b2, b3⟩ := body p e s m args below meth c s₁ B hml hP s₁ hh0 (Stand.of_body B)
    exact ⟨t, o, a1, b1, b2, b3⟩
/-! ===== END ===== -/
end
section
def RX0 : String := "CachehallDesk$Builder"
def TX0 : u_T := fun k => match k with
  | 0 => ("CachehallDesk$Builder", "plan", "LCachehallDesk$Plan;", true)
  | 1 => ("CachehallDesk$Builder", "crew", "LCachehallDesk$Crew;", true)
  | 2 => ("CachehallDesk$Builder", "teams", "LCachehallDesk$Teams;", true)
  | 3 => ("CachehallDesk$Builder", "cache", "LCachehallDesk$Cache;", true)
  | 4 => ("CachehallDesk$Builder", "got", "LCachehallDesk$Got;", true)
  | 5 => ("CachehallDesk$Builder", "before", "LCachehallDesk$Snapshot;", true)
  | 6 => ("CachehallDesk$Builder", "checkEvery", "I", false)
  | 7 => ("CachehallDesk$Builder", "checker", "I", false)
  | _ => ("CachehallDesk$Builder", "checkedPrint", "I", false)
def tyX0 : Nat → FieldType := fun k => match k with
  | 0 => .object "CachehallDesk$Plan"
  | 1 => .object "CachehallDesk$Crew"
  | 2 => .object "CachehallDesk$Teams"
  | 3 => .object "CachehallDesk$Cache"
  | 4 => .object "CachehallDesk$Got"
  | 5 => .object "CachehallDesk$Snapshot"
  | 6 => .int
  | 7 => .int
  | _ => .int
abbrev wsX00 : List Cond := u_ws RX0 TX0 9
theorem nmX0 : ∀ a, a < 9 → ∀ b, b < 9 → a ≠ b → (TX0 a).2.1 ≠ (TX0 b).2.1 := by decide +kernel
theorem tyX0_ok : ∀ k, k < 9 → parseFieldDescriptor (TX0 k).2.2.1 = some (tyX0 k) := by decide +kernel
abbrev cX0_init : ByteArray := prog_2_method_1_code
def yX0_init : MethodName := ⟨RX0, "<init>", "()V"⟩
abbrev cX0_carryOut : ByteArray := prog_2_method_2_code
def yX0_carryOut : MethodName := ⟨RX0, "carryOut", "(II)Z"⟩
abbrev cX0_runsNeeded : ByteArray := prog_2_method_3_code
def yX0_runsNeeded : MethodName := ⟨RX0, "runsNeeded", "(II)I"⟩
abbrev cX0_printWouldDiffer : ByteArray := prog_2_method_4_code
def yX0_printWouldDiffer : MethodName := ⟨RX0, "printWouldDiffer", "(II)Z"⟩
abbrev cX0_goneFor : ByteArray := prog_2_method_5_code
def yX0_goneFor : MethodName := ⟨RX0, "goneFor", "(II)I"⟩
abbrev cX0_attempt : ByteArray := prog_2_method_6_code
def yX0_attempt : MethodName := ⟨RX0, "attempt", "(II)Z"⟩
abbrev cX0_obtain : ByteArray := prog_2_method_7_code
def yX0_obtain : MethodName := ⟨RX0, "obtain", "(II)Z"⟩
abbrev cX0_isCheckDue : ByteArray := prog_2_method_8_code
def yX0_isCheckDue : MethodName := ⟨RX0, "isCheckDue", "()Z"⟩
abbrev cX0_enter : ByteArray := prog_2_method_9_code
def yX0_enter : MethodName := ⟨RX0, "enter", "(IIII)Z"⟩
abbrev cX0_checkAgain : ByteArray := prog_2_method_10_code
def yX0_checkAgain : MethodName := ⟨RX0, "checkAgain", "(I)I"⟩
abbrev cX0_compareWithRun : ByteArray := prog_2_method_11_code
def yX0_compareWithRun : MethodName := ⟨RX0, "compareWithRun", "(II)I"⟩
def RX1 : String := "CachehallDesk$Cache"
def TX1 : u_T := fun k => match k with
  | 0 => ("CachehallDesk$Cache", "count", "I", false)
  | 1 => ("CachehallDesk$Cache", "wrong", "I", false)
  | 2 => ("CachehallDesk$Cache", "action", "[I", true)
  | 3 => ("CachehallDesk$Cache", "worker", "[I", true)
  | 4 => ("CachehallDesk$Cache", "team", "[I", true)
  | 5 => ("CachehallDesk$Cache", "print", "[I", true)
  | 6 => ("CachehallDesk$Cache", "hits", "[I", true)
  | 7 => ("CachehallDesk$Cache", "state", "[I", true)
  | 8 => ("CachehallDesk$Cache", "cost", "[I", true)
  | 9 => ("CachehallDesk$Cache", "size", "[I", true)
  | 10 => ("CachehallDesk$Cache", "contents", "[I", true)
  | 11 => ("CachehallDesk$Cache", "values", "[I", true)
  | 12 => ("CachehallDesk$Cache", "prints", "[I", true)
  | 13 => ("CachehallDesk$Cache", "from", "[I", true)
  | _ => ("CachehallDesk$Cache", "fromSet", "[J", true)
def tyX1 : Nat → FieldType := fun k => match k with
  | 0 => .int
  | 1 => .int
  | 2 => .array .int
  | 3 => .array .int
  | 4 => .array .int
  | 5 => .array .int
  | 6 => .array .int
  | 7 => .array .int
  | 8 => .array .int
  | 9 => .array .int
  | 10 => .array .int
  | 11 => .array .int
  | 12 => .array .int
  | 13 => .array .int
  | _ => .array .long
abbrev wsX10 : List Cond := u_ws RX1 TX1 15
theorem nmX1 : ∀ a, a < 15 → ∀ b, b < 15 → a ≠ b → (TX1 a).2.1 ≠ (TX1 b).2.1 := by decide +kernel
theorem tyX1_ok : ∀ k, k < 15 → parseFieldDescriptor (TX1 k).2.2.1 = some (tyX1 k) := by decide +kernel
abbrev cX1_init : ByteArray := prog_3_method_1_code
def yX1_init : MethodName := ⟨RX1, "<init>", "()V"⟩
abbrev cX1_isFull : ByteArray := prog_3_method_2_code
def yX1_isFull : MethodName := ⟨RX1, "isFull", "()Z"⟩
abbrev cX1_firstHit : ByteArray := prog_3_method_3_code
def yX1_firstHit : MethodName := ⟨RX1, "firstHit", "(LCachehallDesk$Plan;LCachehallDesk$Got;I)I"⟩
abbrev cX1_hasInputsOfNow : ByteArray := prog_3_method_4_code
def yX1_hasInputsOfNow : MethodName := ⟨RX1, "hasInputsOfNow", "(LCachehallDesk$Plan;I)Z"⟩
abbrev cX1_changedSettings : ByteArray := prog_3_method_5_code
def yX1_changedSettings : MethodName := ⟨RX1, "changedSettings", "(LCachehallDesk$Plan;I)I"⟩
abbrev cX1_hasPrints : ByteArray := prog_3_method_6_code
def yX1_hasPrints : MethodName := ⟨RX1, "hasPrints", "(ILCachehallDesk$Got;I)Z"⟩
abbrev cX1_add : ByteArray := prog_3_method_7_code
def yX1_add : MethodName := ⟨RX1, "add", "(LCachehallDesk$Plan;LCachehallDesk$Got;I)I"⟩
abbrev cX1_offspring : ByteArray := prog_3_method_8_code
def yX1_offspring : MethodName := ⟨RX1, "offspring", "(I)J"⟩
abbrev cX1_poison : ByteArray := prog_3_method_9_code
def yX1_poison : MethodName := ⟨RX1, "poison", "(I)V"⟩
abbrev cX1_dropAllOf : ByteArray := prog_3_method_10_code
def yX1_dropAllOf : MethodName := ⟨RX1, "dropAllOf", "(I)V"⟩
abbrev cX1_makeRoom : ByteArray := prog_3_method_11_code
def yX1_makeRoom : MethodName := ⟨RX1, "makeRoom", "(II)I"⟩
abbrev cX1_leastWorth : ByteArray := prog_3_method_12_code
def yX1_leastWorth : MethodName := ⟨RX1, "leastWorth", "(I)I"⟩
abbrev cX1_worth : ByteArray := prog_3_method_13_code
def yX1_worth : MethodName := ⟨RX1, "worth", "(I)I"⟩
abbrev cX1_isKeptBy : ByteArray := prog_3_method_14_code
def yX1_isKeptBy : MethodName := ⟨RX1, "isKeptBy", "(II)Z"⟩
abbrev cX1_usedBy : ByteArray := prog_3_method_15_code
def yX1_usedBy : MethodName := ⟨RX1, "usedBy", "(I)I"⟩
abbrev cX1_keptOfTeam : ByteArray := prog_3_method_16_code
def yX1_keptOfTeam : MethodName := ⟨RX1, "keptOfTeam", "(I)I"⟩
abbrev cX1_keptOfActions : ByteArray := prog_3_method_17_code
def yX1_keptOfActions : MethodName := ⟨RX1, "keptOfActions", "(I)I"⟩
abbrev cX1_poisonedOfWorker : ByteArray := prog_3_method_18_code
def yX1_poisonedOfWorker : MethodName := ⟨RX1, "poisonedOfWorker", "(I)I"⟩
abbrev cX1_inState : ByteArray := prog_3_method_19_code
def yX1_inState : MethodName := ⟨RX1, "inState", "(I)I"⟩
abbrev cX1_allHits : ByteArray := prog_3_method_20_code
def yX1_allHits : MethodName := ⟨RX1, "allHits", "()I"⟩
def RX2 : String := "CachehallDesk$Crew"
def TX2 : u_T := fun k => match k with
  | 0 => ("CachehallDesk$Crew", "count", "I", false)
  | 1 => ("CachehallDesk$Crew", "fault", "[I", true)
  | 2 => ("CachehallDesk$Crew", "trust", "[I", true)
  | 3 => ("CachehallDesk$Crew", "runs", "[I", true)
  | 4 => ("CachehallDesk$Crew", "busy", "[I", true)
  | _ => ("CachehallDesk$Crew", "checks", "[I", true)
def tyX2 : Nat → FieldType := fun k => match k with
  | 0 => .int
  | 1 => .array .int
  | 2 => .array .int
  | 3 => .array .int
  | 4 => .array .int
  | _ => .array .int
abbrev wsX20 : List Cond := u_ws RX2 TX2 6
theorem nmX2 : ∀ a, a < 6 → ∀ b, b < 6 → a ≠ b → (TX2 a).2.1 ≠ (TX2 b).2.1 := by decide +kernel
theorem tyX2_ok : ∀ k, k < 6 → parseFieldDescriptor (TX2 k).2.2.1 = some (tyX2 k) := by decide +kernel
abbrev cX2_init : ByteArray := prog_4_method_1_code
def yX2_init : MethodName := ⟨RX2, "<init>", "()V"⟩
abbrev cX2_choose : ByteArray := prog_4_method_2_code
def yX2_choose : MethodName := ⟨RX2, "choose", "(I)I"⟩
abbrev cX2_isBetter : ByteArray := prog_4_method_3_code
def yX2_isBetter : MethodName := ⟨RX2, "isBetter", "(II)Z"⟩
abbrev cX2_runOnce : ByteArray := prog_4_method_4_code
def yX2_runOnce : MethodName := ⟨RX2, "runOnce", "(III)I"⟩
abbrev cX2_changeTrust : ByteArray := prog_4_method_5_code
def yX2_changeTrust : MethodName := ⟨RX2, "changeTrust", "(II)V"⟩
abbrev cX2_allRuns : ByteArray := prog_4_method_6_code
def yX2_allRuns : MethodName := ⟨RX2, "allRuns", "()I"⟩
def RX3 : String := "CachehallDesk$Got"
def TX3 : u_T := fun k => match k with
  | 0 => ("CachehallDesk$Got", "print", "[I", true)
  | _ => ("CachehallDesk$Got", "entry", "[I", true)
def tyX3 : Nat → FieldType := fun k => match k with
  | 0 => .array .int
  | _ => .array .int
abbrev wsX30 : List Cond := u_ws RX3 TX3 2
theorem nmX3 : ∀ a, a < 2 → ∀ b, b < 2 → a ≠ b → (TX3 a).2.1 ≠ (TX3 b).2.1 := by decide +kernel
theorem tyX3_ok : ∀ k, k < 2 → parseFieldDescriptor (TX3 k).2.2.1 = some (tyX3 k) := by decide +kernel
abbrev cX3_init : ByteArray := prog_5_method_1_code
def yX3_init : MethodName := ⟨RX3, "<init>", "()V"⟩
def RX4 : String := "CachehallDesk$Plan"
def TX4 : u_T := fun k => match k with
  | 0 => ("CachehallDesk$Plan", "contents", "[I", true)
  | 1 => ("CachehallDesk$Plan", "values", "[I", true)
  | 2 => ("CachehallDesk$Plan", "count", "I", false)
  | 3 => ("CachehallDesk$Plan", "files", "[I", true)
  | 4 => ("CachehallDesk$Plan", "actions", "[I", true)
  | 5 => ("CachehallDesk$Plan", "settings", "[I", true)
  | 6 => ("CachehallDesk$Plan", "out", "[I", true)
  | 7 => ("CachehallDesk$Plan", "cost", "[I", true)
  | 8 => ("CachehallDesk$Plan", "size", "[I", true)
  | _ => ("CachehallDesk$Plan", "clean", "[I", true)
def tyX4 : Nat → FieldType := fun k => match k with
  | 0 => .array .int
  | 1 => .array .int
  | 2 => .int
  | 3 => .array .int
  | 4 => .array .int
  | 5 => .array .int
  | 6 => .array .int
  | 7 => .array .int
  | 8 => .array .int
  | _ => .array .int
abbrev wsX40 : List Cond := u_ws RX4 TX4 10
theorem nmX4 : ∀ a, a < 10 → ∀ b, b < 10 → a ≠ b → (TX4 a).2.1 ≠ (TX4 b).2.1 := by decide +kernel
theorem tyX4_ok : ∀ k, k < 10 → parseFieldDescriptor (TX4 k).2.2.1 = some (tyX4 k) := by decide +kernel
abbrev cX4_init : ByteArray := prog_6_method_1_code
def yX4_init : MethodName := ⟨RX4, "<init>", "()V"⟩
abbrev cX4_allActions : ByteArray := prog_6_method_2_code
def yX4_allActions : MethodName := ⟨RX4, "allActions", "()I"⟩
abbrev cX4_printOf : ByteArray := prog_6_method_3_code
def yX4_printOf : MethodName := ⟨RX4, "printOf", "(I[I)I"⟩
abbrev cX4_cleanPrint : ByteArray := prog_6_method_4_code
def yX4_cleanPrint : MethodName := ⟨RX4, "cleanPrint", "(I)I"⟩
abbrev cX4_neededFor : ByteArray := prog_6_method_5_code
def yX4_neededFor : MethodName := ⟨RX4, "neededFor", "(I)I"⟩
abbrev cX4_actionsTouchedBy : ByteArray := prog_6_method_6_code
def yX4_actionsTouchedBy : MethodName := ⟨RX4, "actionsTouchedBy", "(I)I"⟩
def RX5 : String := "CachehallDesk$Snapshot"
def TX5 : u_T := fun k => match k with
  | 0 => ("CachehallDesk$Snapshot", "out", "[I", true)
  | 1 => ("CachehallDesk$Snapshot", "trust", "[I", true)
  | 2 => ("CachehallDesk$Snapshot", "runs", "[I", true)
  | 3 => ("CachehallDesk$Snapshot", "busy", "[I", true)
  | 4 => ("CachehallDesk$Snapshot", "checks", "[I", true)
  | 5 => ("CachehallDesk$Snapshot", "saved", "[I", true)
  | 6 => ("CachehallDesk$Snapshot", "hits", "[I", true)
  | 7 => ("CachehallDesk$Snapshot", "state", "[I", true)
  | 8 => ("CachehallDesk$Snapshot", "count", "I", false)
  | _ => ("CachehallDesk$Snapshot", "wrong", "I", false)
def tyX5 : Nat → FieldType := fun k => match k with
  | 0 => .array .int
  | 1 => .array .int
  | 2 => .array .int
  | 3 => .array .int
  | 4 => .array .int
  | 5 => .array .int
  | 6 => .array .int
  | 7 => .array .int
  | 8 => .int
  | _ => .int
abbrev wsX50 : List Cond := u_ws RX5 TX5 10
theorem nmX5 : ∀ a, a < 10 → ∀ b, b < 10 → a ≠ b → (TX5 a).2.1 ≠ (TX5 b).2.1 := by decide +kernel
theorem tyX5_ok : ∀ k, k < 10 → parseFieldDescriptor (TX5 k).2.2.1 = some (tyX5 k) := by decide +kernel
abbrev cX5_init : ByteArray := prog_7_method_1_code
def yX5_init : MethodName := ⟨RX5, "<init>", "()V"⟩
abbrev cX5_take : ByteArray := prog_7_method_2_code
def yX5_take : MethodName := ⟨RX5, "take", "(LCachehallDesk$Plan;LCachehallDesk$Crew;LCachehallDesk$Teams;LCachehallDesk$Cache;)V"⟩
abbrev cX5_putBack : ByteArray := prog_7_method_3_code
def yX5_putBack : MethodName := ⟨RX5, "putBack", "(LCachehallDesk$Plan;LCachehallDesk$Crew;LCachehallDesk$Teams;LCachehallDesk$Cache;)V"⟩
def RX6 : String := "CachehallDesk$Teams"
def TX6 : u_T := fun k => match k with
  | 0 => ("CachehallDesk$Teams", "count", "I", false)
  | 1 => ("CachehallDesk$Teams", "quota", "[I", true)
  | 2 => ("CachehallDesk$Teams", "saved", "[I", true)
  | _ => ("CachehallDesk$Teams", "builds", "[I", true)
def tyX6 : Nat → FieldType := fun k => match k with
  | 0 => .int
  | 1 => .array .int
  | 2 => .array .int
  | _ => .array .int
abbrev wsX60 : List Cond := u_ws RX6 TX6 4
theorem nmX6 : ∀ a, a < 4 → ∀ b, b < 4 → a ≠ b → (TX6 a).2.1 ≠ (TX6 b).2.1 := by decide +kernel
theorem tyX6_ok : ∀ k, k < 4 → parseFieldDescriptor (TX6 k).2.2.1 = some (tyX6 k) := by decide +kernel
abbrev cX6_init : ByteArray := prog_8_method_1_code
def yX6_init : MethodName := ⟨RX6, "<init>", "()V"⟩
def RX7 : String := "CachehallDesk"
def TX7 : u_T := fun k => match k with
  | 0 => ("CachehallDesk", "builder", "LCachehallDesk$Builder;", true)
  | 1 => ("CachehallDesk", "plan", "LCachehallDesk$Plan;", true)
  | 2 => ("CachehallDesk", "crew", "LCachehallDesk$Crew;", true)
  | 3 => ("CachehallDesk", "teams", "LCachehallDesk$Teams;", true)
  | _ => ("CachehallDesk", "cache", "LCachehallDesk$Cache;", true)
def tyX7 : Nat → FieldType := fun k => match k with
  | 0 => .object "CachehallDesk$Builder"
  | 1 => .object "CachehallDesk$Plan"
  | 2 => .object "CachehallDesk$Crew"
  | 3 => .object "CachehallDesk$Teams"
  | _ => .object "CachehallDesk$Cache"
abbrev wsX70 : List Cond := u_ws RX7 TX7 5
theorem nmX7 : ∀ a, a < 5 → ∀ b, b < 5 → a ≠ b → (TX7 a).2.1 ≠ (TX7 b).2.1 := by decide +kernel
theorem tyX7_ok : ∀ k, k < 5 → parseFieldDescriptor (TX7 k).2.2.1 = some (tyX7 k) := by decide +kernel
abbrev cX7_init : ByteArray := prog_1_method_1_code
def yX7_init : MethodName := ⟨RX7, "<init>", "()V"⟩
abbrev cX7_action : ByteArray := prog_1_method_2_code
def yX7_action : MethodName := ⟨RX7, "action", "(IIIIII)I"⟩
abbrev cX7_file : ByteArray := prog_1_method_3_code
def yX7_file : MethodName := ⟨RX7, "file", "(II)I"⟩
abbrev cX7_set : ByteArray := prog_1_method_4_code
def yX7_set : MethodName := ⟨RX7, "set", "(II)I"⟩
abbrev cX7_ofAction : ByteArray := prog_1_method_5_code
def yX7_ofAction : MethodName := ⟨RX7, "ofAction", "(II)I"⟩
abbrev cX7_worker : ByteArray := prog_1_method_6_code
def yX7_worker : MethodName := ⟨RX7, "worker", "(I)I"⟩
abbrev cX7_ofWorker : ByteArray := prog_1_method_7_code
def yX7_ofWorker : MethodName := ⟨RX7, "ofWorker", "(II)I"⟩
abbrev cX7_mend : ByteArray := prog_1_method_8_code
def yX7_mend : MethodName := ⟨RX7, "mend", "(II)I"⟩
abbrev cX7_team : ByteArray := prog_1_method_9_code
def yX7_team : MethodName := ⟨RX7, "team", "(I)I"⟩
abbrev cX7_quota : ByteArray := prog_1_method_10_code
def yX7_quota : MethodName := ⟨RX7, "quota", "(II)I"⟩
abbrev cX7_ofTeam : ByteArray := prog_1_method_11_code
def yX7_ofTeam : MethodName := ⟨RX7, "ofTeam", "(II)I"⟩
abbrev cX7_build : ByteArray := prog_1_method_12_code
def yX7_build : MethodName := ⟨RX7, "build", "(II)I"⟩
abbrev cX7_check : ByteArray := prog_1_method_13_code
def yX7_check : MethodName := ⟨RX7, "check", "(I)I"⟩
abbrev cX7_recheck : ByteArray := prog_1_method_14_code
def yX7_recheck : MethodName := ⟨RX7, "recheck", "(I)I"⟩
abbrev cX7_ofEntry : ByteArray := prog_1_method_15_code
def yX7_ofEntry : MethodName := ⟨RX7, "ofEntry", "(II)I"⟩
abbrev cX7_from : ByteArray := prog_1_method_16_code
def yX7_from : MethodName := ⟨RX7, "from", "(II)I"⟩
abbrev cX7_many : ByteArray := prog_1_method_17_code
def yX7_many : MethodName := ⟨RX7, "many", "(I)I"⟩
abbrev cX7_hitShare : ByteArray := prog_1_method_18_code
def yX7_hitShare : MethodName := ⟨RX7, "hitShare", "()D"⟩
abbrev cX7_wouldRun : ByteArray := prog_1_method_19_code
def yX7_wouldRun : MethodName := ⟨RX7, "wouldRun", "(II)I"⟩
abbrev cX7_wouldBeWrong : ByteArray := prog_1_method_20_code
def yX7_wouldBeWrong : MethodName := ⟨RX7, "wouldBeWrong", "(II)Z"⟩
abbrev cX7_touched : ByteArray := prog_1_method_21_code
def yX7_touched : MethodName := ⟨RX7, "touched", "(I)I"⟩
abbrev cX7_wouldGo : ByteArray := prog_1_method_22_code
def yX7_wouldGo : MethodName := ⟨RX7, "wouldGo", "(II)I"⟩
abbrev cX7_digest : ByteArray := prog_1_method_23_code
def yX7_digest : MethodName := ⟨RX7, "digest", "()J"⟩
abbrev cX7_needIndex : ByteArray := prog_1_method_24_code
def yX7_needIndex : MethodName := ⟨RX7, "needIndex", "(II)V"⟩
abbrev cX7_needArgument : ByteArray := prog_1_method_25_code
def yX7_needArgument : MethodName := ⟨RX7, "needArgument", "(Z)V"⟩
abbrev cX7_needState : ByteArray := prog_1_method_26_code
def yX7_needState : MethodName := ⟨RX7, "needState", "(Z)V"⟩
abbrev cX7_isWithin : ByteArray := prog_1_method_27_code
def yX7_isWithin : MethodName := ⟨RX7, "isWithin", "(III)Z"⟩
abbrev cX7_isIndex : ByteArray := prog_1_method_28_code
def yX7_isIndex : MethodName := ⟨RX7, "isIndex", "(II)Z"⟩
abbrev cX7_isPartOf : ByteArray := prog_1_method_29_code
def yX7_isPartOf : MethodName := ⟨RX7, "isPartOf", "(II)Z"⟩
abbrev cX7_has : ByteArray := prog_1_method_30_code
def yX7_has : MethodName := ⟨RX7, "has", "(JI)Z"⟩
abbrev cX7_weigh : ByteArray := prog_1_method_31_code
def yX7_weigh : MethodName := ⟨RX7, "weigh", "(I[II)I"⟩
def RX8 : String := "CachehallDeskModel$Action"
def TX8 : u_T := fun k => match k with
  | 0 => ("CachehallDeskModel$Action", "number", "I", true)
  | 1 => ("CachehallDeskModel$Action", "files", "I", true)
  | 2 => ("CachehallDeskModel$Action", "actions", "I", true)
  | 3 => ("CachehallDeskModel$Action", "settings", "I", true)
  | 4 => ("CachehallDeskModel$Action", "out", "I", false)
  | 5 => ("CachehallDeskModel$Action", "cost", "I", true)
  | _ => ("CachehallDeskModel$Action", "size", "I", true)
def tyX8 : Nat → FieldType := fun k => match k with
  | 0 => .int
  | 1 => .int
  | 2 => .int
  | 3 => .int
  | 4 => .int
  | 5 => .int
  | _ => .int
abbrev wsX80 : List Cond := u_ws RX8 TX8 7
theorem nmX8 : ∀ a, a < 7 → ∀ b, b < 7 → a ≠ b → (TX8 a).2.1 ≠ (TX8 b).2.1 := by decide +kernel
theorem tyX8_ok : ∀ k, k < 7 → parseFieldDescriptor (TX8 k).2.2.1 = some (tyX8 k) := by decide +kernel
abbrev cX8_init : ByteArray := prog_11_method_1_code
def yX8_init : MethodName := ⟨RX8, "<init>", "(IIIIIII)V"⟩
def RX9 : String := "CachehallDeskModel$Entry"
def TX9 : u_T := fun k => match k with
  | 0 => ("CachehallDeskModel$Entry", "action", "LCachehallDeskModel$Action;", true)
  | 1 => ("CachehallDeskModel$Entry", "worker", "I", true)
  | 2 => ("CachehallDeskModel$Entry", "team", "I", true)
  | 3 => ("CachehallDeskModel$Entry", "print", "I", true)
  | 4 => ("CachehallDeskModel$Entry", "reading", "LCachehallDeskModel$Reading;", true)
  | 5 => ("CachehallDeskModel$Entry", "inKey", "I", true)
  | 6 => ("CachehallDeskModel$Entry", "hits", "I", false)
  | _ => ("CachehallDeskModel$Entry", "state", "I", false)
def tyX9 : Nat → FieldType := fun k => match k with
  | 0 => .object "CachehallDeskModel$Action"
  | 1 => .int
  | 2 => .int
  | 3 => .int
  | 4 => .object "CachehallDeskModel$Reading"
  | 5 => .int
  | 6 => .int
  | _ => .int
abbrev wsX90 : List Cond := u_ws RX9 TX9 8
theorem nmX9 : ∀ a, a < 8 → ∀ b, b < 8 → a ≠ b → (TX9 a).2.1 ≠ (TX9 b).2.1 := by decide +kernel
theorem tyX9_ok : ∀ k, k < 8 → parseFieldDescriptor (TX9 k).2.2.1 = some (tyX9 k) := by decide +kernel
abbrev cX9_init : ByteArray := prog_12_method_1_code
def yX9_init : MethodName := ⟨RX9, "<init>", "(LCachehallDeskModel$Action;IIILCachehallDeskModel$Reading;)V"⟩
abbrev cX9_copy : ByteArray := prog_12_method_2_code
def yX9_copy : MethodName := ⟨RX9, "copy", "(LCachehallDeskModel$Action;)LCachehallDeskModel$Entry;"⟩
abbrev cX9_init_ : ByteArray := prog_12_method_3_code
def yX9_init_ : MethodName := ⟨RX9, "<init>", "(LCachehallDeskModel$Action;IIILCachehallDeskModel$Reading;I)V"⟩
abbrev cX9_isLike : ByteArray := prog_12_method_4_code
def yX9_isLike : MethodName := ⟨RX9, "isLike", "(LCachehallDeskModel$Reading;)Z"⟩
abbrev cX9_worth : ByteArray := prog_12_method_5_code
def yX9_worth : MethodName := ⟨RX9, "worth", "()I"⟩
def RX10 : String := "CachehallDeskModel$Hall"
def TX10 : u_T := fun k => match k with
  | 0 => ("CachehallDeskModel$Hall", "actions", "Ljava/util/ArrayList;", true)
  | 1 => ("CachehallDeskModel$Hall", "contents", "[I", true)
  | 2 => ("CachehallDeskModel$Hall", "values", "[I", true)
  | 3 => ("CachehallDeskModel$Hall", "workers", "Ljava/util/ArrayList;", true)
  | 4 => ("CachehallDeskModel$Hall", "teams", "Ljava/util/ArrayList;", true)
  | 5 => ("CachehallDeskModel$Hall", "entries", "Ljava/util/ArrayList;", true)
  | 6 => ("CachehallDeskModel$Hall", "check", "I", false)
  | 7 => ("CachehallDeskModel$Hall", "hits", "I", false)
  | _ => ("CachehallDeskModel$Hall", "wrong", "I", false)
def tyX10 : Nat → FieldType := fun k => match k with
  | 0 => .object "java/util/ArrayList"
  | 1 => .array .int
  | 2 => .array .int
  | 3 => .object "java/util/ArrayList"
  | 4 => .object "java/util/ArrayList"
  | 5 => .object "java/util/ArrayList"
  | 6 => .int
  | 7 => .int
  | _ => .int
abbrev wsX100 : List Cond := u_ws RX10 TX10 9
theorem nmX10 : ∀ a, a < 9 → ∀ b, b < 9 → a ≠ b → (TX10 a).2.1 ≠ (TX10 b).2.1 := by decide +kernel
theorem tyX10_ok : ∀ k, k < 9 → parseFieldDescriptor (TX10 k).2.2.1 = some (tyX10 k) := by decide +kernel
abbrev cX10_init : ByteArray := prog_13_method_1_code
def yX10_init : MethodName := ⟨RX10, "<init>", "()V"⟩
abbrev cX10_copy : ByteArray := prog_13_method_2_code
def yX10_copy : MethodName := ⟨RX10, "copy", "()LCachehallDeskModel$Hall;"⟩
abbrev cX10_print : ByteArray := prog_13_method_3_code
def yX10_print : MethodName := ⟨RX10, "print", "(LCachehallDeskModel$Action;LCachehallDeskModel$Reading;)I"⟩
abbrev cX10_read : ByteArray := prog_13_method_4_code
def yX10_read : MethodName := ⟨RX10, "read", "(LCachehallDeskModel$Action;[I[I)LCachehallDeskModel$Reading;"⟩
abbrev cX10_chosen : ByteArray := prog_13_method_5_code
def yX10_chosen : MethodName := ⟨RX10, "chosen", "(I)I"⟩
abbrev cX10_run : ByteArray := prog_13_method_6_code
def yX10_run : MethodName := ⟨RX10, "run", "(ILCachehallDeskModel$Action;LCachehallDeskModel$Reading;)I"⟩
abbrev cX10_uses : ByteArray := prog_13_method_7_code
def yX10_uses : MethodName := ⟨RX10, "uses", "(I)I"⟩
abbrev cX10_shrink : ByteArray := prog_13_method_8_code
def yX10_shrink : MethodName := ⟨RX10, "shrink", "(II)I"⟩
abbrev cX10_isAdded : ByteArray := prog_13_method_9_code
def yX10_isAdded : MethodName := ⟨RX10, "isAdded", "(LCachehallDeskModel$Entry;)Z"⟩
abbrev cX10_cameOf : ByteArray := prog_13_method_10_code
def yX10_cameOf : MethodName := ⟨RX10, "cameOf", "(I)[Z"⟩
abbrev cX10_checked : ByteArray := prog_13_method_11_code
def yX10_checked : MethodName := ⟨RX10, "checked", "(ILCachehallDeskModel$Reading;I)I"⟩
abbrev cX10_whole : ByteArray := prog_13_method_12_code
def yX10_whole : MethodName := ⟨RX10, "whole", "(I)I"⟩
abbrev cX10_build : ByteArray := prog_13_method_13_code
def yX10_build : MethodName := ⟨RX10, "build", "(II)I"⟩
abbrev cX10_got : ByteArray := prog_13_method_14_code
def yX10_got : MethodName := ⟨RX10, "got", "(ILCachehallDeskModel$Action;LCachehallDeskModel$Reading;)I"⟩
abbrev cX10_would : ByteArray := prog_13_method_15_code
def yX10_would : MethodName := ⟨RX10, "would", "(I)I"⟩
abbrev cX10_runs : ByteArray := prog_13_method_16_code
def yX10_runs : MethodName := ⟨RX10, "runs", "()I"⟩
def RX11 : String := "CachehallDeskModel$Reading"
def TX11 : u_T := fun k => match k with
  | 0 => ("CachehallDeskModel$Reading", "contents", "[I", true)
  | 1 => ("CachehallDeskModel$Reading", "prints", "[I", true)
  | 2 => ("CachehallDeskModel$Reading", "from", "[I", true)
  | _ => ("CachehallDeskModel$Reading", "values", "[I", true)
def tyX11 : Nat → FieldType := fun k => match k with
  | 0 => .array .int
  | 1 => .array .int
  | 2 => .array .int
  | _ => .array .int
abbrev wsX110 : List Cond := u_ws RX11 TX11 4
theorem nmX11 : ∀ a, a < 4 → ∀ b, b < 4 → a ≠ b → (TX11 a).2.1 ≠ (TX11 b).2.1 := by decide +kernel
theorem tyX11_ok : ∀ k, k < 4 → parseFieldDescriptor (TX11 k).2.2.1 = some (tyX11 k) := by decide +kernel
abbrev cX11_init : ByteArray := prog_14_method_1_code
def yX11_init : MethodName := ⟨RX11, "<init>", "()V"⟩
def RX12 : String := "CachehallDeskModel$Team"
def TX12 : u_T := fun k => match k with
  | 0 => ("CachehallDeskModel$Team", "quota", "I", false)
  | 1 => ("CachehallDeskModel$Team", "saved", "I", false)
  | _ => ("CachehallDeskModel$Team", "builds", "I", false)
def tyX12 : Nat → FieldType := fun k => match k with
  | 0 => .int
  | 1 => .int
  | _ => .int
abbrev wsX120 : List Cond := u_ws RX12 TX12 3
theorem nmX12 : ∀ a, a < 3 → ∀ b, b < 3 → a ≠ b → (TX12 a).2.1 ≠ (TX12 b).2.1 := by decide +kernel
theorem tyX12_ok : ∀ k, k < 3 → parseFieldDescriptor (TX12 k).2.2.1 = some (tyX12 k) := by decide +kernel
abbrev cX12_init : ByteArray := prog_15_method_1_code
def yX12_init : MethodName := ⟨RX12, "<init>", "()V"⟩
def RX13 : String := "CachehallDeskModel$Worker"
def TX13 : u_T := fun k => match k with
  | 0 => ("CachehallDeskModel$Worker", "fault", "I", false)
  | 1 => ("CachehallDeskModel$Worker", "trust", "I", false)
  | 2 => ("CachehallDeskModel$Worker", "runs", "I", false)
  | 3 => ("CachehallDeskModel$Worker", "busy", "I", false)
  | _ => ("CachehallDeskModel$Worker", "checks", "I", false)
def tyX13 : Nat → FieldType := fun k => match k with
  | 0 => .int
  | 1 => .int
  | 2 => .int
  | 3 => .int
  | _ => .int
abbrev wsX130 : List Cond := u_ws RX13 TX13 5
theorem nmX13 : ∀ a, a < 5 → ∀ b, b < 5 → a ≠ b → (TX13 a).2.1 ≠ (TX13 b).2.1 := by decide +kernel
theorem tyX13_ok : ∀ k, k < 5 → parseFieldDescriptor (TX13 k).2.2.1 = some (tyX13 k) := by decide +kernel
abbrev cX13_init : ByteArray := prog_16_method_1_code
def yX13_init : MethodName := ⟨RX13, "<init>", "()V"⟩
def RX14 : String := "CachehallDeskModel"
def TX14 : u_T := fun k => match k with
  | 0 => ("CachehallDeskModel", "thrown", "I", false)
  | 1 => ("CachehallDeskModel", "hall", "LCachehallDeskModel$Hall;", false)
  | _ => ("CachehallDeskModel", "sum", "J", false)
def tyX14 : Nat → FieldType := fun k => match k with
  | 0 => .int
  | 1 => .object "CachehallDeskModel$Hall"
  | _ => .long
abbrev wsX140 : List Cond := u_ws RX14 TX14 3
theorem nmX14 : ∀ a, a < 3 → ∀ b, b < 3 → a ≠ b → (TX14 a).2.1 ≠ (TX14 b).2.1 := by decide +kernel
theorem tyX14_ok : ∀ k, k < 3 → parseFieldDescriptor (TX14 k).2.2.1 = some (tyX14 k) := by decide +kernel
abbrev cX14_init : ByteArray := prog_10_method_1_code
def yX14_init : MethodName := ⟨RX14, "<init>", "()V"⟩
abbrev cX14_thrown : ByteArray := prog_10_method_2_code
def yX14_thrown : MethodName := ⟨RX14, "thrown", "()I"⟩
abbrev cX14_refuse : ByteArray := prog_10_method_3_code
def yX14_refuse : MethodName := ⟨RX14, "refuse", "(I)I"⟩
abbrev cX14_is : ByteArray := prog_10_method_4_code
def yX14_is : MethodName := ⟨RX14, "is", "(III)Z"⟩
abbrev cX14_has : ByteArray := prog_10_method_5_code
def yX14_has : MethodName := ⟨RX14, "has", "(II)Z"⟩
abbrev cX14_isAction : ByteArray := prog_10_method_6_code
def yX14_isAction : MethodName := ⟨RX14, "isAction", "(I)Z"⟩
abbrev cX14_isWorker : ByteArray := prog_10_method_7_code
def yX14_isWorker : MethodName := ⟨RX14, "isWorker", "(I)Z"⟩
abbrev cX14_isTeam : ByteArray := prog_10_method_8_code
def yX14_isTeam : MethodName := ⟨RX14, "isTeam", "(I)Z"⟩
abbrev cX14_isEntry : ByteArray := prog_10_method_9_code
def yX14_isEntry : MethodName := ⟨RX14, "isEntry", "(I)Z"⟩
abbrev cX14_action : ByteArray := prog_10_method_10_code
def yX14_action : MethodName := ⟨RX14, "action", "(IIIIII)I"⟩
abbrev cX14_file : ByteArray := prog_10_method_11_code
def yX14_file : MethodName := ⟨RX14, "file", "(II)I"⟩
abbrev cX14_set : ByteArray := prog_10_method_12_code
def yX14_set : MethodName := ⟨RX14, "set", "(II)I"⟩
abbrev cX14_kept : ByteArray := prog_10_method_13_code
def yX14_kept : MethodName := ⟨RX14, "kept", "(II)I"⟩
abbrev cX14_ofActionNow : ByteArray := prog_10_method_14_code
def yX14_ofActionNow : MethodName := ⟨RX14, "ofActionNow", "(II)I"⟩
abbrev cX14_ofAction : ByteArray := prog_10_method_15_code
def yX14_ofAction : MethodName := ⟨RX14, "ofAction", "(II)I"⟩
abbrev cX14_worker : ByteArray := prog_10_method_16_code
def yX14_worker : MethodName := ⟨RX14, "worker", "(I)I"⟩
abbrev cX14_ofWorkerNow : ByteArray := prog_10_method_17_code
def yX14_ofWorkerNow : MethodName := ⟨RX14, "ofWorkerNow", "(II)I"⟩
abbrev cX14_ofWorker : ByteArray := prog_10_method_18_code
def yX14_ofWorker : MethodName := ⟨RX14, "ofWorker", "(II)I"⟩
abbrev cX14_mend : ByteArray := prog_10_method_19_code
def yX14_mend : MethodName := ⟨RX14, "mend", "(II)I"⟩
abbrev cX14_team : ByteArray := prog_10_method_20_code
def yX14_team : MethodName := ⟨RX14, "team", "(I)I"⟩
abbrev cX14_quota : ByteArray := prog_10_method_21_code
def yX14_quota : MethodName := ⟨RX14, "quota", "(II)I"⟩
abbrev cX14_ofTeamNow : ByteArray := prog_10_method_22_code
def yX14_ofTeamNow : MethodName := ⟨RX14, "ofTeamNow", "(II)I"⟩
abbrev cX14_ofTeam : ByteArray := prog_10_method_23_code
def yX14_ofTeam : MethodName := ⟨RX14, "ofTeam", "(II)I"⟩
abbrev cX14_build : ByteArray := prog_10_method_24_code
def yX14_build : MethodName := ⟨RX14, "build", "(II)I"⟩
abbrev cX14_check : ByteArray := prog_10_method_25_code
def yX14_check : MethodName := ⟨RX14, "check", "(I)I"⟩
abbrev cX14_isOther : ByteArray := prog_10_method_26_code
def yX14_isOther : MethodName := ⟨RX14, "isOther", "(LCachehallDeskModel$Entry;)Z"⟩
abbrev cX14_recheck : ByteArray := prog_10_method_27_code
def yX14_recheck : MethodName := ⟨RX14, "recheck", "(I)I"⟩
abbrev cX14_ofEntryNow : ByteArray := prog_10_method_28_code
def yX14_ofEntryNow : MethodName := ⟨RX14, "ofEntryNow", "(II)I"⟩
abbrev cX14_ofEntry : ByteArray := prog_10_method_29_code
def yX14_ofEntry : MethodName := ⟨RX14, "ofEntry", "(II)I"⟩
abbrev cX14_from : ByteArray := prog_10_method_30_code
def yX14_from : MethodName := ⟨RX14, "from", "(II)I"⟩
abbrev cX14_manyNow : ByteArray := prog_10_method_31_code
def yX14_manyNow : MethodName := ⟨RX14, "manyNow", "(I)I"⟩
abbrev cX14_many : ByteArray := prog_10_method_32_code
def yX14_many : MethodName := ⟨RX14, "many", "(I)I"⟩
abbrev cX14_hitShare : ByteArray := prog_10_method_33_code
def yX14_hitShare : MethodName := ⟨RX14, "hitShare", "()D"⟩
abbrev cX14_wouldRunNow : ByteArray := prog_10_method_34_code
def yX14_wouldRunNow : MethodName := ⟨RX14, "wouldRunNow", "(II)I"⟩
abbrev cX14_wouldRun : ByteArray := prog_10_method_35_code
def yX14_wouldRun : MethodName := ⟨RX14, "wouldRun", "(II)I"⟩
abbrev cX14_wouldBeWrong : ByteArray := prog_10_method_36_code
def yX14_wouldBeWrong : MethodName := ⟨RX14, "wouldBeWrong", "(II)Z"⟩
abbrev cX14_touchedNow : ByteArray := prog_10_method_37_code
def yX14_touchedNow : MethodName := ⟨RX14, "touchedNow", "(I)I"⟩
abbrev cX14_touched : ByteArray := prog_10_method_38_code
def yX14_touched : MethodName := ⟨RX14, "touched", "(I)I"⟩
abbrev cX14_wouldGo : ByteArray := prog_10_method_39_code
def yX14_wouldGo : MethodName := ⟨RX14, "wouldGo", "(II)I"⟩
abbrev cX14_add : ByteArray := prog_10_method_40_code
def yX14_add : MethodName := ⟨RX14, "add", "(I)V"⟩
abbrev cX14_digest : ByteArray := prog_10_method_41_code
def yX14_digest : MethodName := ⟨RX14, "digest", "()J"⟩
def RJx145de : String := "java/io/Serializable"
def TJx145de : u_T := fun k => match k with
  | _ => ("", "", "", false)
def tyJx145de : Nat → FieldType := fun k => match k with
  | _ => .int
abbrev wsJx145de0 : List Cond := u_ws RJx145de TJx145de 0
theorem nmJx145de : ∀ a, a < 0 → ∀ b, b < 0 → a ≠ b → (TJx145de a).2.1 ≠ (TJx145de b).2.1 := by decide +kernel
theorem tyJx145de_ok : ∀ k, k < 0 → parseFieldDescriptor (TJx145de k).2.2.1 = some (tyJx145de k) := by decide +kernel
def RJx8e188 : String := "java/lang/Cloneable"
def TJx8e188 : u_T := fun k => match k with
  | _ => ("", "", "", false)
def tyJx8e188 : Nat → FieldType := fun k => match k with
  | _ => .int
abbrev wsJx8e1880 : List Cond := u_ws RJx8e188 TJx8e188 0
theorem nmJx8e188 : ∀ a, a < 0 → ∀ b, b < 0 → a ≠ b → (TJx8e188 a).2.1 ≠ (TJx8e188 b).2.1 := by decide +kernel
theorem tyJx8e188_ok : ∀ k, k < 0 → parseFieldDescriptor (TJx8e188 k).2.2.1 = some (tyJx8e188 k) := by decide +kernel
def RJxab1ab : String := "java/lang/Iterable"
def TJxab1ab : u_T := fun k => match k with
  | _ => ("", "", "", false)
def tyJxab1ab : Nat → FieldType := fun k => match k with
  | _ => .int
abbrev wsJxab1ab0 : List Cond := u_ws RJxab1ab TJxab1ab 0
theorem nmJxab1ab : ∀ a, a < 0 → ∀ b, b < 0 → a ≠ b → (TJxab1ab a).2.1 ≠ (TJxab1ab b).2.1 := by decide +kernel
theorem tyJxab1ab_ok : ∀ k, k < 0 → parseFieldDescriptor (TJxab1ab k).2.2.1 = some (tyJxab1ab k) := by decide +kernel
def RJ13 : String := "java/lang/Long"
def TJ13 : u_T := fun k => match k with
  | _ => ("", "", "", false)
def tyJ13 : Nat → FieldType := fun k => match k with
  | _ => .int
abbrev wsJ130 : List Cond := u_ws RJ13 TJ13 0
theorem nmJ13 : ∀ a, a < 0 → ∀ b, b < 0 → a ≠ b → (TJ13 a).2.1 ≠ (TJ13 b).2.1 := by decide +kernel
theorem tyJ13_ok : ∀ k, k < 0 → parseFieldDescriptor (TJ13 k).2.2.1 = some (tyJ13 k) := by decide +kernel
abbrev cJ13_bitCount_95d88 : ByteArray := prog_24_method_50_code
def yJ13_bitCount_95d88 : MethodName := ⟨RJ13, "bitCount", "(J)I"⟩
def RJ9 : String := "java/lang/Math"
def TJ9 : u_T := fun k => match k with
  | _ => ("", "", "", false)
def tyJ9 : Nat → FieldType := fun k => match k with
  | _ => .int
abbrev wsJ90 : List Cond := u_ws RJ9 TJ9 0
theorem nmJ9 : ∀ a, a < 0 → ∀ b, b < 0 → a ≠ b → (TJ9 a).2.1 ≠ (TJ9 b).2.1 := by decide +kernel
theorem tyJ9_ok : ∀ k, k < 0 → parseFieldDescriptor (TJ9 k).2.2.1 = some (tyJ9 k) := by decide +kernel
abbrev cJ9_max_7cf53 : ByteArray := prog_25_method_65_code
def yJ9_max_7cf53 : MethodName := ⟨RJ9, "max", "(II)I"⟩
abbrev cJ9_min_7cf53 : ByteArray := prog_25_method_69_code
def yJ9_min_7cf53 : MethodName := ⟨RJ9, "min", "(II)I"⟩
def RJ0 : String := "java/lang/String"
def TJ0 : u_T := fun k => match k with
  | _ => ("", "", "", false)
def tyJ0 : Nat → FieldType := fun k => match k with
  | _ => .int
abbrev wsJ00 : List Cond := u_ws RJ0 TJ0 0
theorem nmJ0 : ∀ a, a < 0 → ∀ b, b < 0 → a ≠ b → (TJ0 a).2.1 ≠ (TJ0 b).2.1 := by decide +kernel
theorem tyJ0_ok : ∀ k, k < 0 → parseFieldDescriptor (TJ0 k).2.2.1 = some (tyJ0 k) := by decide +kernel
def RJ10 : String := "java/lang/System"
def TJ10 : u_T := fun k => match k with
  | _ => ("", "", "", false)
def tyJ10 : Nat → FieldType := fun k => match k with
  | _ => .int
abbrev wsJ100 : List Cond := u_ws RJ10 TJ10 0
theorem nmJ10 : ∀ a, a < 0 → ∀ b, b < 0 → a ≠ b → (TJ10 a).2.1 ≠ (TJ10 b).2.1 := by decide +kernel
theorem tyJ10_ok : ∀ k, k < 0 → parseFieldDescriptor (TJ10 k).2.2.1 = some (tyJ10 k) := by decide +kernel
def RJxa1e45 : String := "java/util/AbstractCollection"
def TJxa1e45 : u_T := fun k => match k with
  | _ => ("", "", "", false)
def tyJxa1e45 : Nat → FieldType := fun k => match k with
  | _ => .int
abbrev wsJxa1e450 : List Cond := u_ws RJxa1e45 TJxa1e45 0
theorem nmJxa1e45 : ∀ a, a < 0 → ∀ b, b < 0 → a ≠ b → (TJxa1e45 a).2.1 ≠ (TJxa1e45 b).2.1 := by decide +kernel
theorem tyJxa1e45_ok : ∀ k, k < 0 → parseFieldDescriptor (TJxa1e45 k).2.2.1 = some (tyJxa1e45 k) := by decide +kernel
abbrev cJxa1e45_init_da8c8 : ByteArray := prog_30_method_1_code
def yJxa1e45_init_da8c8 : MethodName := ⟨RJxa1e45, "<init>", "()V"⟩
def RJxc12de : String := "java/util/AbstractList"
def TJxc12de : u_T := fun k => match k with
  | _ => ("", "", "", false)
def tyJxc12de : Nat → FieldType := fun k => match k with
  | _ => .int
abbrev wsJxc12de0 : List Cond := u_ws RJxc12de TJxc12de 0
theorem nmJxc12de : ∀ a, a < 0 → ∀ b, b < 0 → a ≠ b → (TJxc12de a).2.1 ≠ (TJxc12de b).2.1 := by decide +kernel
theorem tyJxc12de_ok : ∀ k, k < 0 → parseFieldDescriptor (TJxc12de k).2.2.1 = some (tyJxc12de k) := by decide +kernel
abbrev cJxc12de_init_da8c8 : ByteArray := prog_31_method_1_code
def yJxc12de_init_da8c8 : MethodName := ⟨RJxc12de, "<init>", "()V"⟩
def RJx35411 : String := "java/util/ArrayList$Itr"
def TJx35411 : u_T := fun k => match k with
  | 0 => ("java/util/ArrayList$Itr", "cursor", "I", false)
  | 1 => ("java/util/ArrayList$Itr", "lastRet", "I", false)
  | 2 => ("java/util/ArrayList$Itr", "expectedModCount", "I", false)
  | _ => ("java/util/ArrayList$Itr", "this$0", "Ljava/util/ArrayList;", true)
def tyJx35411 : Nat → FieldType := fun k => match k with
  | 0 => .int
  | 1 => .int
  | 2 => .int
  | _ => .object "java/util/ArrayList"
abbrev wsJx354110 : List Cond := u_ws RJx35411 TJx35411 4
theorem nmJx35411 : ∀ a, a < 4 → ∀ b, b < 4 → a ≠ b → (TJx35411 a).2.1 ≠ (TJx35411 b).2.1 := by decide +kernel
theorem tyJx35411_ok : ∀ k, k < 4 → parseFieldDescriptor (TJx35411 k).2.2.1 = some (tyJx35411 k) := by decide +kernel
abbrev cJx35411_init_45d68 : ByteArray := prog_33_method_1_code
def yJx35411_init_45d68 : MethodName := ⟨RJx35411, "<init>", "(Ljava/util/ArrayList;)V"⟩
abbrev cJx35411_hasNext_aae02 : ByteArray := prog_33_method_2_code
def yJx35411_hasNext_aae02 : MethodName := ⟨RJx35411, "hasNext", "()Z"⟩
abbrev cJx35411_next_0502b : ByteArray := prog_33_method_3_code
def yJx35411_next_0502b : MethodName := ⟨RJx35411, "next", "()Ljava/lang/Object;"⟩
abbrev cJx35411_checkForComodification_da8c8 : ByteArray := prog_33_method_6_code
def yJx35411_checkForComodification_da8c8 : MethodName := ⟨RJx35411, "checkForComodification", "()V"⟩
def RJx4a65c : String := "java/util/ArrayList"
def TJx4a65c : u_T := fun k => match k with
  | 0 => ("java/util/AbstractList", "modCount", "I", false)
  | 1 => ("java/util/ArrayList", "elementData", "[Ljava/lang/Object;", false)
  | _ => ("java/util/ArrayList", "size", "I", false)
def tyJx4a65c : Nat → FieldType := fun k => match k with
  | 0 => .int
  | 1 => .array (.object "java/lang/Object")
  | _ => .int
abbrev wsJx4a65c0 : List Cond := u_ws RJx4a65c TJx4a65c 3
theorem nmJx4a65c : ∀ a, a < 3 → ∀ b, b < 3 → a ≠ b → (TJx4a65c a).2.1 ≠ (TJx4a65c b).2.1 := by decide +kernel
theorem tyJx4a65c_ok : ∀ k, k < 3 → parseFieldDescriptor (TJx4a65c k).2.2.1 = some (tyJx4a65c k) := by decide +kernel
abbrev cJx4a65c_init_da8c8 : ByteArray := prog_32_method_2_code
def yJx4a65c_init_da8c8 : MethodName := ⟨RJx4a65c, "<init>", "()V"⟩
abbrev cJx4a65c_grow_92f84 : ByteArray := prog_32_method_6_code
def yJx4a65c_grow_92f84 : MethodName := ⟨RJx4a65c, "grow", "(I)[Ljava/lang/Object;"⟩
abbrev cJx4a65c_grow_d5877 : ByteArray := prog_32_method_7_code
def yJx4a65c_grow_d5877 : MethodName := ⟨RJx4a65c, "grow", "()[Ljava/lang/Object;"⟩
abbrev cJx4a65c_size_8abf5 : ByteArray := prog_32_method_8_code
def yJx4a65c_size_8abf5 : MethodName := ⟨RJx4a65c, "size", "()I"⟩
abbrev cJx4a65c_elementData_915e3 : ByteArray := prog_32_method_18_code
def yJx4a65c_elementData_915e3 : MethodName := ⟨RJx4a65c, "elementData", "(I)Ljava/lang/Object;"⟩
abbrev cJx4a65c_get_915e3 : ByteArray := prog_32_method_20_code
def yJx4a65c_get_915e3 : MethodName := ⟨RJx4a65c, "get", "(I)Ljava/lang/Object;"⟩
abbrev cJx4a65c_add_72be8 : ByteArray := prog_32_method_24_code
def yJx4a65c_add_72be8 : MethodName := ⟨RJx4a65c, "add", "(Ljava/lang/Object;[Ljava/lang/Object;I)V"⟩
abbrev cJx4a65c_add_9ea2d : ByteArray := prog_32_method_25_code
def yJx4a65c_add_9ea2d : MethodName := ⟨RJx4a65c, "add", "(Ljava/lang/Object;)Z"⟩
abbrev cJx4a65c_iterator_32c93 : ByteArray := prog_32_method_55_code
def yJx4a65c_iterator_32c93 : MethodName := ⟨RJx4a65c, "iterator", "()Ljava/util/Iterator;"⟩
def RJ7 : String := "java/util/Arrays"
def TJ7 : u_T := fun k => match k with
  | _ => ("", "", "", false)
def tyJ7 : Nat → FieldType := fun k => match k with
  | _ => .int
abbrev wsJ70 : List Cond := u_ws RJ7 TJ7 0
theorem nmJ7 : ∀ a, a < 0 → ∀ b, b < 0 → a ≠ b → (TJ7 a).2.1 ≠ (TJ7 b).2.1 := by decide +kernel
theorem tyJ7_ok : ∀ k, k < 0 → parseFieldDescriptor (TJ7 k).2.2.1 = some (tyJ7 k) := by decide +kernel
abbrev cJ7_copyOf_1904c : ByteArray := prog_34_method_119_code
def yJ7_copyOf_1904c : MethodName := ⟨RJ7, "copyOf", "([Ljava/lang/Object;I)[Ljava/lang/Object;"⟩
abbrev cJ7_copyOf_6403c : ByteArray := prog_34_method_120_code
def yJ7_copyOf_6403c : MethodName := ⟨RJ7, "copyOf", "([Ljava/lang/Object;ILjava/lang/Class;)[Ljava/lang/Object;"⟩
def RJx5ef63 : String := "java/util/Collection"
def TJx5ef63 : u_T := fun k => match k with
  | _ => ("", "", "", false)
def tyJx5ef63 : Nat → FieldType := fun k => match k with
  | _ => .int
abbrev wsJx5ef630 : List Cond := u_ws RJx5ef63 TJx5ef63 0
theorem nmJx5ef63 : ∀ a, a < 0 → ∀ b, b < 0 → a ≠ b → (TJx5ef63 a).2.1 ≠ (TJx5ef63 b).2.1 := by decide +kernel
theorem tyJx5ef63_ok : ∀ k, k < 0 → parseFieldDescriptor (TJx5ef63 k).2.2.1 = some (tyJx5ef63 k) := by decide +kernel
def RJx4d0d8 : String := "java/util/Iterator"
def TJx4d0d8 : u_T := fun k => match k with
  | _ => ("", "", "", false)
def tyJx4d0d8 : Nat → FieldType := fun k => match k with
  | _ => .int
abbrev wsJx4d0d80 : List Cond := u_ws RJx4d0d8 TJx4d0d8 0
theorem nmJx4d0d8 : ∀ a, a < 0 → ∀ b, b < 0 → a ≠ b → (TJx4d0d8 a).2.1 ≠ (TJx4d0d8 b).2.1 := by decide +kernel
theorem tyJx4d0d8_ok : ∀ k, k < 0 → parseFieldDescriptor (TJx4d0d8 k).2.2.1 = some (tyJx4d0d8 k) := by decide +kernel
def RJxbd725 : String := "java/util/List"
def TJxbd725 : u_T := fun k => match k with
  | _ => ("", "", "", false)
def tyJxbd725 : Nat → FieldType := fun k => match k with
  | _ => .int
abbrev wsJxbd7250 : List Cond := u_ws RJxbd725 TJxbd725 0
theorem nmJxbd725 : ∀ a, a < 0 → ∀ b, b < 0 → a ≠ b → (TJxbd725 a).2.1 ≠ (TJxbd725 b).2.1 := by decide +kernel
theorem tyJxbd725_ok : ∀ k, k < 0 → parseFieldDescriptor (TJxbd725 k).2.2.1 = some (tyJxbd725 k) := by decide +kernel
def RJ15 : String := "java/util/Objects"
def TJ15 : u_T := fun k => match k with
  | _ => ("", "", "", false)
def tyJ15 : Nat → FieldType := fun k => match k with
  | _ => .int
abbrev wsJ150 : List Cond := u_ws RJ15 TJ15 0
theorem nmJ15 : ∀ a, a < 0 → ∀ b, b < 0 → a ≠ b → (TJ15 a).2.1 ≠ (TJ15 b).2.1 := by decide +kernel
theorem tyJ15_ok : ∀ k, k < 0 → parseFieldDescriptor (TJ15 k).2.2.1 = some (tyJ15 k) := by decide +kernel
abbrev cJ15_checkIndex_7cf53 : ByteArray := prog_38_method_17_code
def yJ15_checkIndex_7cf53 : MethodName := ⟨RJ15, "checkIndex", "(II)I"⟩
def RJxf0a74 : String := "java/util/RandomAccess"
def TJxf0a74 : u_T := fun k => match k with
  | _ => ("", "", "", false)
def tyJxf0a74 : Nat → FieldType := fun k => match k with
  | _ => .int
abbrev wsJxf0a740 : List Cond := u_ws RJxf0a74 TJxf0a74 0
theorem nmJxf0a74 : ∀ a, a < 0 → ∀ b, b < 0 → a ≠ b → (TJxf0a74 a).2.1 ≠ (TJxf0a74 b).2.1 := by decide +kernel
theorem tyJxf0a74_ok : ∀ k, k < 0 → parseFieldDescriptor (TJxf0a74 k).2.2.1 = some (tyJxf0a74 k) := by decide +kernel
def RJxa66e6 : String := "java/util/SequencedCollection"
def TJxa66e6 : u_T := fun k => match k with
  | _ => ("", "", "", false)
def tyJxa66e6 : Nat → FieldType := fun k => match k with
  | _ => .int
abbrev wsJxa66e60 : List Cond := u_ws RJxa66e6 TJxa66e6 0
theorem nmJxa66e6 : ∀ a, a < 0 → ∀ b, b < 0 → a ≠ b → (TJxa66e6 a).2.1 ≠ (TJxa66e6 b).2.1 := by decide +kernel
theorem tyJxa66e6_ok : ∀ k, k < 0 → parseFieldDescriptor (TJxa66e6 k).2.2.1 = some (tyJxa66e6 k) := by decide +kernel
def RJ8 : String := "jdk/internal/util/ArraysSupport"
def TJ8 : u_T := fun k => match k with
  | _ => ("", "", "", false)
def tyJ8 : Nat → FieldType := fun k => match k with
  | _ => .int
abbrev wsJ80 : List Cond := u_ws RJ8 TJ8 0
theorem nmJ8 : ∀ a, a < 0 → ∀ b, b < 0 → a ≠ b → (TJ8 a).2.1 ≠ (TJ8 b).2.1 := by decide +kernel
theorem tyJ8_ok : ∀ k, k < 0 → parseFieldDescriptor (TJ8 k).2.2.1 = some (tyJ8 k) := by decide +kernel
abbrev cJ8_newLength_cabcc : ByteArray := prog_41_method_27_code
def yJ8_newLength_cabcc : MethodName := ⟨RJ8, "newLength", "(III)I"⟩
abbrev cJ8_hugeLength_7cf53 : ByteArray := prog_41_method_28_code
def yJ8_hugeLength_7cf53 : MethodName := ⟨RJ8, "hugeLength", "(II)I"⟩
def RJ3 : String := "jdk/internal/util/Preconditions"
def TJ3 : u_T := fun k => match k with
  | _ => ("", "", "", false)
def tyJ3 : Nat → FieldType := fun k => match k with
  | _ => .int
abbrev wsJ30 : List Cond := u_ws RJ3 TJ3 0
theorem nmJ3 : ∀ a, a < 0 → ∀ b, b < 0 → a ≠ b → (TJ3 a).2.1 ≠ (TJ3 b).2.1 := by decide +kernel
theorem tyJ3_ok : ∀ k, k < 0 → parseFieldDescriptor (TJ3 k).2.2.1 = some (tyJ3 k) := by decide +kernel
abbrev cJ3_checkIndex_8e157 : ByteArray := prog_42_method_11_code
def yJ3_checkIndex_8e157 : MethodName := ⟨RJ3, "checkIndex", "(IILjava/util/function/BiFunction;)I"⟩
def RL : String := "CachehallDeskLaw"
abbrev cL_action : ByteArray := method_3_code
def yL_action : MethodName := ⟨RL, "action", "(LCachehallDesk;IIIIII[J)I"⟩
abbrev cL_file : ByteArray := method_4_code
def yL_file : MethodName := ⟨RL, "file", "(LCachehallDesk;II[J)I"⟩
abbrev cL_set : ByteArray := method_5_code
def yL_set : MethodName := ⟨RL, "set", "(LCachehallDesk;II[J)I"⟩
abbrev cL_ofAction : ByteArray := method_6_code
def yL_ofAction : MethodName := ⟨RL, "ofAction", "(LCachehallDesk;II[J)I"⟩
abbrev cL_worker : ByteArray := method_7_code
def yL_worker : MethodName := ⟨RL, "worker", "(LCachehallDesk;I[J)I"⟩
abbrev cL_ofWorker : ByteArray := method_8_code
def yL_ofWorker : MethodName := ⟨RL, "ofWorker", "(LCachehallDesk;II[J)I"⟩
abbrev cL_mend : ByteArray := method_9_code
def yL_mend : MethodName := ⟨RL, "mend", "(LCachehallDesk;II[J)I"⟩
abbrev cL_team : ByteArray := method_10_code
def yL_team : MethodName := ⟨RL, "team", "(LCachehallDesk;I[J)I"⟩
abbrev cL_quota : ByteArray := method_11_code
def yL_quota : MethodName := ⟨RL, "quota", "(LCachehallDesk;II[J)I"⟩
abbrev cL_ofTeam : ByteArray := method_12_code
def yL_ofTeam : MethodName := ⟨RL, "ofTeam", "(LCachehallDesk;II[J)I"⟩
abbrev cL_build : ByteArray := method_13_code
def yL_build : MethodName := ⟨RL, "build", "(LCachehallDesk;II[J)I"⟩
abbrev cL_check : ByteArray := method_14_code
def yL_check : MethodName := ⟨RL, "check", "(LCachehallDesk;I[J)I"⟩
abbrev cL_recheck : ByteArray := method_15_code
def yL_recheck : MethodName := ⟨RL, "recheck", "(LCachehallDesk;I[J)I"⟩
abbrev cL_ofEntry : ByteArray := method_16_code
def yL_ofEntry : MethodName := ⟨RL, "ofEntry", "(LCachehallDesk;II[J)I"⟩
abbrev cL_from : ByteArray := method_17_code
def yL_from : MethodName := ⟨RL, "from", "(LCachehallDesk;II[J)I"⟩
abbrev cL_many : ByteArray := method_18_code
def yL_many : MethodName := ⟨RL, "many", "(LCachehallDesk;I[J)I"⟩
abbrev cL_wouldRun : ByteArray := method_19_code
def yL_wouldRun : MethodName := ⟨RL, "wouldRun", "(LCachehallDesk;II[J)I"⟩
abbrev cL_wouldBeWrong : ByteArray := method_20_code
def yL_wouldBeWrong : MethodName := ⟨RL, "wouldBeWrong", "(LCachehallDesk;II[J)I"⟩
abbrev cL_touched : ByteArray := method_21_code
def yL_touched : MethodName := ⟨RL, "touched", "(LCachehallDesk;I[J)I"⟩
abbrev cL_wouldGo : ByteArray := method_22_code
def yL_wouldGo : MethodName := ⟨RL, "wouldGo", "(LCachehallDesk;II[J)I"⟩
abbrev cL_law : ByteArray := code
def yL_law : MethodName := ⟨RL, "law", "([I)Z"⟩
abbrev vwCl : List vw_C := [(RJx35411, TJx35411, 4), (RJx4a65c, TJx4a65c, 3), (RX0, TX0, 9), (RX1, TX1, 15), (RX2, TX2, 6), (RX3, TX3, 2), (RX4, TX4, 10), (RX5, TX5, 10), (RX6, TX6, 4), (RX7, TX7, 5), (RX8, TX8, 7), (RX9, TX9, 8), (RX10, TX10, 9), (RX11, TX11, 4), (RX12, TX12, 3), (RX13, TX13, 5), (RX14, TX14, 3)]
end
section
theorem dX0_init_0 : decode cX0_init 0 = .ok (.aload_n 0, 1) := by decide +kernel
theorem dX0_init_1 : decode cX0_init 1 = .ok (.invokespecial 3, 3) := by decide +kernel
theorem dX0_init_4 : decode cX0_init 4 = .ok (.aload_n 0, 1) := by decide +kernel
theorem dX0_init_5 : decode cX0_init 5 = .ok (.new 9, 3) := by decide +kernel
theorem dX0_init_8 : decode cX0_init 8 = .ok (.dup, 1) := by decide +kernel
theorem dX0_init_9 : decode cX0_init 9 = .ok (.invokespecial 11, 3) := by decide +kernel
theorem dX0_init_12 : decode cX0_init 12 = .ok (.putfield 12, 3) := by decide +kernel
theorem dX0_init_15 : decode cX0_init 15 = .ok (.aload_n 0, 1) := by decide +kernel
theorem dX0_init_16 : decode cX0_init 16 = .ok (.new 18, 3) := by decide +kernel
theorem dX0_init_19 : decode cX0_init 19 = .ok (.dup, 1) := by decide +kernel
theorem dX0_init_20 : decode cX0_init 20 = .ok (.invokespecial 20, 3) := by decide +kernel
theorem dX0_init_23 : decode cX0_init 23 = .ok (.putfield 21, 3) := by decide +kernel
theorem dX0_init_26 : decode cX0_init 26 = .ok (.aload_n 0, 1) := by decide +kernel
theorem dX0_init_27 : decode cX0_init 27 = .ok (.new 25, 3) := by decide +kernel
theorem dX0_init_30 : decode cX0_init 30 = .ok (.dup, 1) := by decide +kernel
theorem dX0_init_31 : decode cX0_init 31 = .ok (.invokespecial 27, 3) := by decide +kernel
theorem dX0_init_34 : decode cX0_init 34 = .ok (.putfield 28, 3) := by decide +kernel
theorem dX0_init_37 : decode cX0_init 37 = .ok (.aload_n 0, 1) := by decide +kernel
theorem dX0_init_38 : decode cX0_init 38 = .ok (.new 32, 3) := by decide +kernel
theorem dX0_init_41 : decode cX0_init 41 = .ok (.dup, 1) := by decide +kernel
theorem dX0_init_42 : decode cX0_init 42 = .ok (.invokespecial 34, 3) := by decide +kernel
theorem dX0_init_45 : decode cX0_init 45 = .ok (.putfield 35, 3) := by decide +kernel
theorem dX0_init_48 : decode cX0_init 48 = .ok (.aload_n 0, 1) := by decide +kernel
theorem dX0_init_49 : decode cX0_init 49 = .ok (.new 39, 3) := by decide +kernel
theorem dX0_init_52 : decode cX0_init 52 = .ok (.dup, 1) := by decide +kernel
theorem dX0_init_53 : decode cX0_init 53 = .ok (.invokespecial 41, 3) := by decide +kernel
theorem dX0_init_56 : decode cX0_init 56 = .ok (.putfield 42, 3) := by decide +kernel
theorem dX0_init_59 : decode cX0_init 59 = .ok (.aload_n 0, 1) := by decide +kernel
theorem dX0_init_60 : decode cX0_init 60 = .ok (.new 46, 3) := by decide +kernel
theorem dX0_init_63 : decode cX0_init 63 = .ok (.dup, 1) := by decide +kernel
theorem dX0_init_64 : decode cX0_init 64 = .ok (.invokespecial 48, 3) := by decide +kernel
theorem dX0_init_67 : decode cX0_init 67 = .ok (.putfield 49, 3) := by decide +kernel
theorem dX0_init_70 : decode cX0_init 70 = .ok (.return_, 1) := by decide +kernel
theorem dX0_carryOut_0 : decode cX0_carryOut 0 = .ok (.aload_n 0, 1) := by decide +kernel
theorem dX0_carryOut_1 : decode cX0_carryOut 1 = .ok (.getfield 49, 3) := by decide +kernel
theorem dX0_carryOut_4 : decode cX0_carryOut 4 = .ok (.aload_n 0, 1) := by decide +kernel
theorem dX0_carryOut_5 : decode cX0_carryOut 5 = .ok (.getfield 12, 3) := by decide +kernel
theorem dX0_carryOut_8 : decode cX0_carryOut 8 = .ok (.aload_n 0, 1) := by decide +kernel
theorem dX0_carryOut_9 : decode cX0_carryOut 9 = .ok (.getfield 21, 3) := by decide +kernel
theorem dX0_carryOut_12 : decode cX0_carryOut 12 = .ok (.aload_n 0, 1) := by decide +kernel
theorem dX0_carryOut_13 : decode cX0_carryOut 13 = .ok (.getfield 28, 3) := by decide +kernel
theorem dX0_carryOut_16 : decode cX0_carryOut 16 = .ok (.aload_n 0, 1) := by decide +kernel
theorem dX0_carryOut_17 : decode cX0_carryOut 17 = .ok (.getfield 35, 3) := by decide +kernel
theorem dX0_carryOut_20 : decode cX0_carryOut 20 = .ok (.invokevirtual 53, 3) := by decide +kernel
theorem dX0_carryOut_23 : decode cX0_carryOut 23 = .ok (.aload_n 0, 1) := by decide +kernel
theorem dX0_carryOut_24 : decode cX0_carryOut 24 = .ok (.iload_n 1, 1) := by decide +kernel
theorem dX0_carryOut_25 : decode cX0_carryOut 25 = .ok (.iload_n 2, 1) := by decide +kernel
theorem dX0_carryOut_26 : decode cX0_carryOut 26 = .ok (.invokevirtual 57, 3) := by decide +kernel
theorem dX0_carryOut_29 : decode cX0_carryOut 29 = .ok (.istore_n 3, 1) := by decide +kernel
theorem dX0_carryOut_30 : decode cX0_carryOut 30 = .ok (.iload_n 3, 1) := by decide +kernel
theorem dX0_carryOut_31 : decode cX0_carryOut 31 = .ok (.ifCond .eq 19, 3) := by decide +kernel
theorem dX0_carryOut_34 : decode cX0_carryOut 34 = .ok (.aload_n 0, 1) := by decide +kernel
theorem dX0_carryOut_35 : decode cX0_carryOut 35 = .ok (.getfield 28, 3) := by decide +kernel
theorem dX0_carryOut_38 : decode cX0_carryOut 38 = .ok (.getfield 61, 3) := by decide +kernel
theorem dX0_carryOut_41 : decode cX0_carryOut 41 = .ok (.iload_n 1, 1) := by decide +kernel
theorem dX0_carryOut_42 : decode cX0_carryOut 42 = .ok (.dup2, 1) := by decide +kernel
theorem dX0_carryOut_43 : decode cX0_carryOut 43 = .ok (.iaload, 1) := by decide +kernel
theorem dX0_carryOut_44 : decode cX0_carryOut 44 = .ok (.iconst 1, 1) := by decide +kernel
theorem dX0_carryOut_45 : decode cX0_carryOut 45 = .ok (.iadd, 1) := by decide +kernel
theorem dX0_carryOut_46 : decode cX0_carryOut 46 = .ok (.iastore, 1) := by decide +kernel
theorem dX0_carryOut_47 : decode cX0_carryOut 47 = .ok (.goto 26, 3) := by decide +kernel
theorem dX0_carryOut_50 : decode cX0_carryOut 50 = .ok (.aload_n 0, 1) := by decide +kernel
theorem dX0_carryOut_51 : decode cX0_carryOut 51 = .ok (.getfield 49, 3) := by decide +kernel
theorem dX0_carryOut_54 : decode cX0_carryOut 54 = .ok (.aload_n 0, 1) := by decide +kernel
theorem dX0_carryOut_55 : decode cX0_carryOut 55 = .ok (.getfield 12, 3) := by decide +kernel
theorem dX0_carryOut_58 : decode cX0_carryOut 58 = .ok (.aload_n 0, 1) := by decide +kernel
theorem dX0_carryOut_59 : decode cX0_carryOut 59 = .ok (.getfield 21, 3) := by decide +kernel
theorem dX0_carryOut_62 : decode cX0_carryOut 62 = .ok (.aload_n 0, 1) := by decide +kernel
theorem dX0_carryOut_63 : decode cX0_carryOut 63 = .ok (.getfield 28, 3) := by decide +kernel
theorem dX0_carryOut_66 : decode cX0_carryOut 66 = .ok (.aload_n 0, 1) := by decide +kernel
theorem dX0_carryOut_67 : decode cX0_carryOut 67 = .ok (.getfield 35, 3) := by decide +kernel
theorem dX0_carryOut_70 : decode cX0_carryOut 70 = .ok (.invokevirtual 65, 3) := by decide +kernel
theorem dX0_carryOut_73 : decode cX0_carryOut 73 = .ok (.iload_n 3, 1) := by decide +kernel
theorem dX0_carryOut_74 : decode cX0_carryOut 74 = .ok (.ireturn, 1) := by decide +kernel
theorem dX0_runsNeeded_0 : decode cX0_runsNeeded 0 = .ok (.aload_n 0, 1) := by decide +kernel
theorem dX0_runsNeeded_1 : decode cX0_runsNeeded 1 = .ok (.getfield 49, 3) := by decide +kernel
theorem dX0_runsNeeded_4 : decode cX0_runsNeeded 4 = .ok (.aload_n 0, 1) := by decide +kernel
theorem dX0_runsNeeded_5 : decode cX0_runsNeeded 5 = .ok (.getfield 12, 3) := by decide +kernel
theorem dX0_runsNeeded_8 : decode cX0_runsNeeded 8 = .ok (.aload_n 0, 1) := by decide +kernel
theorem dX0_runsNeeded_9 : decode cX0_runsNeeded 9 = .ok (.getfield 21, 3) := by decide +kernel
theorem dX0_runsNeeded_12 : decode cX0_runsNeeded 12 = .ok (.aload_n 0, 1) := by decide +kernel
theorem dX0_runsNeeded_13 : decode cX0_runsNeeded 13 = .ok (.getfield 28, 3) := by decide +kernel
theorem dX0_runsNeeded_16 : decode cX0_runsNeeded 16 = .ok (.aload_n 0, 1) := by decide +kernel
theorem dX0_runsNeeded_17 : decode cX0_runsNeeded 17 = .ok (.getfield 35, 3) := by decide +kernel
theorem dX0_runsNeeded_20 : decode cX0_runsNeeded 20 = .ok (.invokevirtual 53, 3) := by decide +kernel
theorem dX0_runsNeeded_23 : decode cX0_runsNeeded 23 = .ok (.aload_n 0, 1) := by decide +kernel
theorem dX0_runsNeeded_24 : decode cX0_runsNeeded 24 = .ok (.getfield 21, 3) := by decide +kernel
theorem dX0_runsNeeded_27 : decode cX0_runsNeeded 27 = .ok (.invokevirtual 68, 3) := by decide +kernel
theorem dX0_runsNeeded_30 : decode cX0_runsNeeded 30 = .ok (.istore_n 3, 1) := by decide +kernel
theorem dX0_runsNeeded_31 : decode cX0_runsNeeded 31 = .ok (.aload_n 0, 1) := by decide +kernel
theorem dX0_runsNeeded_32 : decode cX0_runsNeeded 32 = .ok (.iload_n 1, 1) := by decide +kernel
theorem dX0_runsNeeded_33 : decode cX0_runsNeeded 33 = .ok (.iload_n 2, 1) := by decide +kernel
theorem dX0_runsNeeded_34 : decode cX0_runsNeeded 34 = .ok (.invokevirtual 57, 3) := by decide +kernel
theorem dX0_runsNeeded_37 : decode cX0_runsNeeded 37 = .ok (.ifCond .eq 15, 3) := by decide +kernel
theorem dX0_runsNeeded_40 : decode cX0_runsNeeded 40 = .ok (.aload_n 0, 1) := by decide +kernel
theorem dX0_runsNeeded_41 : decode cX0_runsNeeded 41 = .ok (.getfield 21, 3) := by decide +kernel
theorem dX0_runsNeeded_44 : decode cX0_runsNeeded 44 = .ok (.invokevirtual 68, 3) := by decide +kernel
theorem dX0_runsNeeded_47 : decode cX0_runsNeeded 47 = .ok (.iload_n 3, 1) := by decide +kernel
theorem dX0_runsNeeded_48 : decode cX0_runsNeeded 48 = .ok (.isub, 1) := by decide +kernel
theorem dX0_runsNeeded_49 : decode cX0_runsNeeded 49 = .ok (.goto 4, 3) := by decide +kernel
theorem dX0_runsNeeded_52 : decode cX0_runsNeeded 52 = .ok (.iconst (-1), 1) := by decide +kernel
theorem dX0_runsNeeded_53 : decode cX0_runsNeeded 53 = .ok (.istore 4, 2) := by decide +kernel
theorem dX0_runsNeeded_55 : decode cX0_runsNeeded 55 = .ok (.aload_n 0, 1) := by decide +kernel
theorem dX0_runsNeeded_56 : decode cX0_runsNeeded 56 = .ok (.getfield 49, 3) := by decide +kernel
theorem dX0_runsNeeded_59 : decode cX0_runsNeeded 59 = .ok (.aload_n 0, 1) := by decide +kernel
theorem dX0_runsNeeded_60 : decode cX0_runsNeeded 60 = .ok (.getfield 12, 3) := by decide +kernel
theorem dX0_runsNeeded_63 : decode cX0_runsNeeded 63 = .ok (.aload_n 0, 1) := by decide +kernel
theorem dX0_runsNeeded_64 : decode cX0_runsNeeded 64 = .ok (.getfield 21, 3) := by decide +kernel
theorem dX0_runsNeeded_67 : decode cX0_runsNeeded 67 = .ok (.aload_n 0, 1) := by decide +kernel
theorem dX0_runsNeeded_68 : decode cX0_runsNeeded 68 = .ok (.getfield 28, 3) := by decide +kernel
theorem dX0_runsNeeded_71 : decode cX0_runsNeeded 71 = .ok (.aload_n 0, 1) := by decide +kernel
theorem dX0_runsNeeded_72 : decode cX0_runsNeeded 72 = .ok (.getfield 35, 3) := by decide +kernel
theorem dX0_runsNeeded_75 : decode cX0_runsNeeded 75 = .ok (.invokevirtual 65, 3) := by decide +kernel
theorem dX0_runsNeeded_78 : decode cX0_runsNeeded 78 = .ok (.iload 4, 2) := by decide +kernel
theorem dX0_runsNeeded_80 : decode cX0_runsNeeded 80 = .ok (.ireturn, 1) := by decide +kernel
theorem dX0_printWouldDiffer_0 : decode cX0_printWouldDiffer 0 = .ok (.aload_n 0, 1) := by decide +kernel
theorem dX0_printWouldDiffer_1 : decode cX0_printWouldDiffer 1 = .ok (.getfield 49, 3) := by decide +kernel
theorem dX0_printWouldDiffer_4 : decode cX0_printWouldDiffer 4 = .ok (.aload_n 0, 1) := by decide +kernel
theorem dX0_printWouldDiffer_5 : decode cX0_printWouldDiffer 5 = .ok (.getfield 12, 3) := by decide +kernel
theorem dX0_printWouldDiffer_8 : decode cX0_printWouldDiffer 8 = .ok (.aload_n 0, 1) := by decide +kernel
theorem dX0_printWouldDiffer_9 : decode cX0_printWouldDiffer 9 = .ok (.getfield 21, 3) := by decide +kernel
theorem dX0_printWouldDiffer_12 : decode cX0_printWouldDiffer 12 = .ok (.aload_n 0, 1) := by decide +kernel
theorem dX0_printWouldDiffer_13 : decode cX0_printWouldDiffer 13 = .ok (.getfield 28, 3) := by decide +kernel
theorem dX0_printWouldDiffer_16 : decode cX0_printWouldDiffer 16 = .ok (.aload_n 0, 1) := by decide +kernel
theorem dX0_printWouldDiffer_17 : decode cX0_printWouldDiffer 17 = .ok (.getfield 35, 3) := by decide +kernel
theorem dX0_printWouldDiffer_20 : decode cX0_printWouldDiffer 20 = .ok (.invokevirtual 53, 3) := by decide +kernel
theorem dX0_printWouldDiffer_23 : decode cX0_printWouldDiffer 23 = .ok (.aload_n 0, 1) := by decide +kernel
theorem dX0_printWouldDiffer_24 : decode cX0_printWouldDiffer 24 = .ok (.iload_n 1, 1) := by decide +kernel
theorem dX0_printWouldDiffer_25 : decode cX0_printWouldDiffer 25 = .ok (.iload_n 2, 1) := by decide +kernel
theorem dX0_printWouldDiffer_26 : decode cX0_printWouldDiffer 26 = .ok (.invokevirtual 57, 3) := by decide +kernel
theorem dX0_printWouldDiffer_29 : decode cX0_printWouldDiffer 29 = .ok (.ifCond .eq 27, 3) := by decide +kernel
theorem dX0_printWouldDiffer_32 : decode cX0_printWouldDiffer 32 = .ok (.aload_n 0, 1) := by decide +kernel
theorem dX0_printWouldDiffer_33 : decode cX0_printWouldDiffer 33 = .ok (.getfield 42, 3) := by decide +kernel
theorem dX0_printWouldDiffer_36 : decode cX0_printWouldDiffer 36 = .ok (.getfield 72, 3) := by decide +kernel
theorem dX0_printWouldDiffer_39 : decode cX0_printWouldDiffer 39 = .ok (.iload_n 2, 1) := by decide +kernel
theorem dX0_printWouldDiffer_40 : decode cX0_printWouldDiffer 40 = .ok (.iaload, 1) := by decide +kernel
theorem dX0_printWouldDiffer_41 : decode cX0_printWouldDiffer 41 = .ok (.aload_n 0, 1) := by decide +kernel
theorem dX0_printWouldDiffer_42 : decode cX0_printWouldDiffer 42 = .ok (.getfield 12, 3) := by decide +kernel
theorem dX0_printWouldDiffer_45 : decode cX0_printWouldDiffer 45 = .ok (.iload_n 2, 1) := by decide +kernel
theorem dX0_printWouldDiffer_46 : decode cX0_printWouldDiffer 46 = .ok (.invokevirtual 75, 3) := by decide +kernel
theorem dX0_printWouldDiffer_49 : decode cX0_printWouldDiffer 49 = .ok (.if_icmp .eq 7, 3) := by decide +kernel
theorem dX0_printWouldDiffer_52 : decode cX0_printWouldDiffer 52 = .ok (.iconst 1, 1) := by decide +kernel
theorem dX0_printWouldDiffer_53 : decode cX0_printWouldDiffer 53 = .ok (.goto 4, 3) := by decide +kernel
theorem dX0_printWouldDiffer_56 : decode cX0_printWouldDiffer 56 = .ok (.iconst 0, 1) := by decide +kernel
theorem dX0_printWouldDiffer_57 : decode cX0_printWouldDiffer 57 = .ok (.istore_n 3, 1) := by decide +kernel
theorem dX0_printWouldDiffer_58 : decode cX0_printWouldDiffer 58 = .ok (.aload_n 0, 1) := by decide +kernel
theorem dX0_printWouldDiffer_59 : decode cX0_printWouldDiffer 59 = .ok (.getfield 49, 3) := by decide +kernel
theorem dX0_printWouldDiffer_62 : decode cX0_printWouldDiffer 62 = .ok (.aload_n 0, 1) := by decide +kernel
theorem dX0_printWouldDiffer_63 : decode cX0_printWouldDiffer 63 = .ok (.getfield 12, 3) := by decide +kernel
theorem dX0_printWouldDiffer_66 : decode cX0_printWouldDiffer 66 = .ok (.aload_n 0, 1) := by decide +kernel
theorem dX0_printWouldDiffer_67 : decode cX0_printWouldDiffer 67 = .ok (.getfield 21, 3) := by decide +kernel
theorem dX0_printWouldDiffer_70 : decode cX0_printWouldDiffer 70 = .ok (.aload_n 0, 1) := by decide +kernel
theorem dX0_printWouldDiffer_71 : decode cX0_printWouldDiffer 71 = .ok (.getfield 28, 3) := by decide +kernel
theorem dX0_printWouldDiffer_74 : decode cX0_printWouldDiffer 74 = .ok (.aload_n 0, 1) := by decide +kernel
theorem dX0_printWouldDiffer_75 : decode cX0_printWouldDiffer 75 = .ok (.getfield 35, 3) := by decide +kernel
theorem dX0_printWouldDiffer_78 : decode cX0_printWouldDiffer 78 = .ok (.invokevirtual 65, 3) := by decide +kernel
theorem dX0_printWouldDiffer_81 : decode cX0_printWouldDiffer 81 = .ok (.iload_n 3, 1) := by decide +kernel
theorem dX0_printWouldDiffer_82 : decode cX0_printWouldDiffer 82 = .ok (.ireturn, 1) := by decide +kernel
theorem dX0_goneFor_0 : decode cX0_goneFor 0 = .ok (.aload_n 0, 1) := by decide +kernel
theorem dX0_goneFor_1 : decode cX0_goneFor 1 = .ok (.getfield 28, 3) := by decide +kernel
theorem dX0_goneFor_4 : decode cX0_goneFor 4 = .ok (.getfield 79, 3) := by decide +kernel
theorem dX0_goneFor_7 : decode cX0_goneFor 7 = .ok (.iload_n 1, 1) := by decide +kernel
theorem dX0_goneFor_8 : decode cX0_goneFor 8 = .ok (.iaload, 1) := by decide +kernel
theorem dX0_goneFor_9 : decode cX0_goneFor 9 = .ok (.iload_n 2, 1) := by decide +kernel
theorem dX0_goneFor_10 : decode cX0_goneFor 10 = .ok (.isub, 1) := by decide +kernel
theorem dX0_goneFor_11 : decode cX0_goneFor 11 = .ok (.istore_n 3, 1) := by decide +kernel
theorem dX0_goneFor_12 : decode cX0_goneFor 12 = .ok (.iload_n 3, 1) := by decide +kernel
theorem dX0_goneFor_13 : decode cX0_goneFor 13 = .ok (.ifCond .ge 5, 3) := by decide +kernel
theorem dX0_goneFor_16 : decode cX0_goneFor 16 = .ok (.iconst 0, 1) := by decide +kernel
theorem dX0_goneFor_17 : decode cX0_goneFor 17 = .ok (.ireturn, 1) := by decide +kernel
theorem dX0_goneFor_18 : decode cX0_goneFor 18 = .ok (.aload_n 0, 1) := by decide +kernel
theorem dX0_goneFor_19 : decode cX0_goneFor 19 = .ok (.getfield 49, 3) := by decide +kernel
theorem dX0_goneFor_22 : decode cX0_goneFor 22 = .ok (.aload_n 0, 1) := by decide +kernel
theorem dX0_goneFor_23 : decode cX0_goneFor 23 = .ok (.getfield 12, 3) := by decide +kernel
theorem dX0_goneFor_26 : decode cX0_goneFor 26 = .ok (.aload_n 0, 1) := by decide +kernel
theorem dX0_goneFor_27 : decode cX0_goneFor 27 = .ok (.getfield 21, 3) := by decide +kernel
theorem dX0_goneFor_30 : decode cX0_goneFor 30 = .ok (.aload_n 0, 1) := by decide +kernel
theorem dX0_goneFor_31 : decode cX0_goneFor 31 = .ok (.getfield 28, 3) := by decide +kernel
theorem dX0_goneFor_34 : decode cX0_goneFor 34 = .ok (.aload_n 0, 1) := by decide +kernel
theorem dX0_goneFor_35 : decode cX0_goneFor 35 = .ok (.getfield 35, 3) := by decide +kernel
theorem dX0_goneFor_38 : decode cX0_goneFor 38 = .ok (.invokevirtual 53, 3) := by decide +kernel
theorem dX0_goneFor_41 : decode cX0_goneFor 41 = .ok (.aload_n 0, 1) := by decide +kernel
theorem dX0_goneFor_42 : decode cX0_goneFor 42 = .ok (.getfield 35, 3) := by decide +kernel
theorem dX0_goneFor_45 : decode cX0_goneFor 45 = .ok (.iload_n 1, 1) := by decide +kernel
theorem dX0_goneFor_46 : decode cX0_goneFor 46 = .ok (.iload_n 3, 1) := by decide +kernel
theorem dX0_goneFor_47 : decode cX0_goneFor 47 = .ok (.invokevirtual 82, 3) := by decide +kernel
theorem dX0_goneFor_50 : decode cX0_goneFor 50 = .ok (.istore 4, 2) := by decide +kernel
theorem dX0_goneFor_52 : decode cX0_goneFor 52 = .ok (.aload_n 0, 1) := by decide +kernel
theorem dX0_goneFor_53 : decode cX0_goneFor 53 = .ok (.getfield 49, 3) := by decide +kernel
theorem dX0_goneFor_56 : decode cX0_goneFor 56 = .ok (.aload_n 0, 1) := by decide +kernel
theorem dX0_goneFor_57 : decode cX0_goneFor 57 = .ok (.getfield 12, 3) := by decide +kernel
theorem dX0_goneFor_60 : decode cX0_goneFor 60 = .ok (.aload_n 0, 1) := by decide +kernel
theorem dX0_goneFor_61 : decode cX0_goneFor 61 = .ok (.getfield 21, 3) := by decide +kernel
theorem dX0_goneFor_64 : decode cX0_goneFor 64 = .ok (.aload_n 0, 1) := by decide +kernel
theorem dX0_goneFor_65 : decode cX0_goneFor 65 = .ok (.getfield 28, 3) := by decide +kernel
theorem dX0_goneFor_68 : decode cX0_goneFor 68 = .ok (.aload_n 0, 1) := by decide +kernel
theorem dX0_goneFor_69 : decode cX0_goneFor 69 = .ok (.getfield 35, 3) := by decide +kernel
theorem dX0_goneFor_72 : decode cX0_goneFor 72 = .ok (.invokevirtual 65, 3) := by decide +kernel
theorem dX0_goneFor_75 : decode cX0_goneFor 75 = .ok (.iload 4, 2) := by decide +kernel
theorem dX0_goneFor_77 : decode cX0_goneFor 77 = .ok (.ireturn, 1) := by decide +kernel
theorem dX0_attempt_0 : decode cX0_attempt 0 = .ok (.aload_n 0, 1) := by decide +kernel
theorem dX0_attempt_1 : decode cX0_attempt 1 = .ok (.getfield 12, 3) := by decide +kernel
theorem dX0_attempt_4 : decode cX0_attempt 4 = .ok (.iload_n 2, 1) := by decide +kernel
theorem dX0_attempt_5 : decode cX0_attempt 5 = .ok (.invokevirtual 86, 3) := by decide +kernel
theorem dX0_attempt_8 : decode cX0_attempt 8 = .ok (.istore_n 3, 1) := by decide +kernel
theorem dX0_attempt_9 : decode cX0_attempt 9 = .ok (.iconst 0, 1) := by decide +kernel
theorem dX0_attempt_10 : decode cX0_attempt 10 = .ok (.istore 4, 2) := by decide +kernel
theorem dX0_attempt_12 : decode cX0_attempt 12 = .ok (.iload 4, 2) := by decide +kernel
theorem dX0_attempt_14 : decode cX0_attempt 14 = .ok (.iload_n 2, 1) := by decide +kernel
theorem dX0_attempt_15 : decode cX0_attempt 15 = .ok (.if_icmp .gt 31, 3) := by decide +kernel
theorem dX0_attempt_18 : decode cX0_attempt 18 = .ok (.iload_n 3, 1) := by decide +kernel
theorem dX0_attempt_19 : decode cX0_attempt 19 = .ok (.i2l, 1) := by decide +kernel
theorem dX0_attempt_20 : decode cX0_attempt 20 = .ok (.iload 4, 2) := by decide +kernel
theorem dX0_attempt_22 : decode cX0_attempt 22 = .ok (.invokestatic 89, 3) := by decide +kernel
theorem dX0_attempt_25 : decode cX0_attempt 25 = .ok (.ifCond .eq 15, 3) := by decide +kernel
theorem dX0_attempt_28 : decode cX0_attempt 28 = .ok (.aload_n 0, 1) := by decide +kernel
theorem dX0_attempt_29 : decode cX0_attempt 29 = .ok (.iload_n 1, 1) := by decide +kernel
theorem dX0_attempt_30 : decode cX0_attempt 30 = .ok (.iload 4, 2) := by decide +kernel
theorem dX0_attempt_32 : decode cX0_attempt 32 = .ok (.invokevirtual 93, 3) := by decide +kernel
theorem dX0_attempt_35 : decode cX0_attempt 35 = .ok (.ifCond .ne 5, 3) := by decide +kernel
theorem dX0_attempt_38 : decode cX0_attempt 38 = .ok (.iconst 0, 1) := by decide +kernel
theorem dX0_attempt_39 : decode cX0_attempt 39 = .ok (.ireturn, 1) := by decide +kernel
theorem dX0_attempt_40 : decode cX0_attempt 40 = .ok (.iinc 4 1, 3) := by decide +kernel
theorem dX0_attempt_43 : decode cX0_attempt 43 = .ok (.goto (-31), 3) := by decide +kernel
theorem dX0_attempt_46 : decode cX0_attempt 46 = .ok (.iconst 1, 1) := by decide +kernel
theorem dX0_attempt_47 : decode cX0_attempt 47 = .ok (.ireturn, 1) := by decide +kernel
theorem dX0_obtain_0 : decode cX0_obtain 0 = .ok (.aload_n 0, 1) := by decide +kernel
theorem dX0_obtain_1 : decode cX0_obtain 1 = .ok (.getfield 35, 3) := by decide +kernel
theorem dX0_obtain_4 : decode cX0_obtain 4 = .ok (.aload_n 0, 1) := by decide +kernel
theorem dX0_obtain_5 : decode cX0_obtain 5 = .ok (.getfield 12, 3) := by decide +kernel
theorem dX0_obtain_8 : decode cX0_obtain 8 = .ok (.aload_n 0, 1) := by decide +kernel
theorem dX0_obtain_9 : decode cX0_obtain 9 = .ok (.getfield 42, 3) := by decide +kernel
theorem dX0_obtain_12 : decode cX0_obtain 12 = .ok (.iload_n 2, 1) := by decide +kernel
theorem dX0_obtain_13 : decode cX0_obtain 13 = .ok (.invokevirtual 96, 3) := by decide +kernel
theorem dX0_obtain_16 : decode cX0_obtain 16 = .ok (.istore_n 3, 1) := by decide +kernel
theorem dX0_obtain_17 : decode cX0_obtain 17 = .ok (.iload_n 3, 1) := by decide +kernel
theorem dX0_obtain_18 : decode cX0_obtain 18 = .ok (.iconst (-1), 1) := by decide +kernel
theorem dX0_obtain_19 : decode cX0_obtain 19 = .ok (.if_icmp .ne 67, 3) := by decide +kernel
theorem dX0_obtain_22 : decode cX0_obtain 22 = .ok (.aload_n 0, 1) := by decide +kernel
theorem dX0_obtain_23 : decode cX0_obtain 23 = .ok (.getfield 21, 3) := by decide +kernel
theorem dX0_obtain_26 : decode cX0_obtain 26 = .ok (.iconst (-1), 1) := by decide +kernel
theorem dX0_obtain_27 : decode cX0_obtain 27 = .ok (.invokevirtual 100, 3) := by decide +kernel
theorem dX0_obtain_30 : decode cX0_obtain 30 = .ok (.istore 4, 2) := by decide +kernel
theorem dX0_obtain_32 : decode cX0_obtain 32 = .ok (.iload 4, 2) := by decide +kernel
theorem dX0_obtain_34 : decode cX0_obtain 34 = .ok (.iconst (-1), 1) := by decide +kernel
theorem dX0_obtain_35 : decode cX0_obtain 35 = .ok (.if_icmp .ne 5, 3) := by decide +kernel
theorem dX0_obtain_38 : decode cX0_obtain 38 = .ok (.iconst 0, 1) := by decide +kernel
theorem dX0_obtain_39 : decode cX0_obtain 39 = .ok (.ireturn, 1) := by decide +kernel
theorem dX0_obtain_40 : decode cX0_obtain 40 = .ok (.aload_n 0, 1) := by decide +kernel
theorem dX0_obtain_41 : decode cX0_obtain 41 = .ok (.getfield 21, 3) := by decide +kernel
theorem dX0_obtain_44 : decode cX0_obtain 44 = .ok (.iload 4, 2) := by decide +kernel
theorem dX0_obtain_46 : decode cX0_obtain 46 = .ok (.aload_n 0, 1) := by decide +kernel
theorem dX0_obtain_47 : decode cX0_obtain 47 = .ok (.getfield 12, 3) := by decide +kernel
theorem dX0_obtain_50 : decode cX0_obtain 50 = .ok (.getfield 103, 3) := by decide +kernel
theorem dX0_obtain_53 : decode cX0_obtain 53 = .ok (.iload_n 2, 1) := by decide +kernel
theorem dX0_obtain_54 : decode cX0_obtain 54 = .ok (.iaload, 1) := by decide +kernel
theorem dX0_obtain_55 : decode cX0_obtain 55 = .ok (.aload_n 0, 1) := by decide +kernel
theorem dX0_obtain_56 : decode cX0_obtain 56 = .ok (.getfield 12, 3) := by decide +kernel
theorem dX0_obtain_59 : decode cX0_obtain 59 = .ok (.iload_n 2, 1) := by decide +kernel
theorem dX0_obtain_60 : decode cX0_obtain 60 = .ok (.aload_n 0, 1) := by decide +kernel
theorem dX0_obtain_61 : decode cX0_obtain 61 = .ok (.getfield 42, 3) := by decide +kernel
theorem dX0_obtain_64 : decode cX0_obtain 64 = .ok (.getfield 72, 3) := by decide +kernel
theorem dX0_obtain_67 : decode cX0_obtain 67 = .ok (.invokevirtual 106, 3) := by decide +kernel
theorem dX0_obtain_70 : decode cX0_obtain 70 = .ok (.invokevirtual 110, 3) := by decide +kernel
theorem dX0_obtain_73 : decode cX0_obtain 73 = .ok (.istore 5, 2) := by decide +kernel
theorem dX0_obtain_75 : decode cX0_obtain 75 = .ok (.aload_n 0, 1) := by decide +kernel
theorem dX0_obtain_76 : decode cX0_obtain 76 = .ok (.iload_n 1, 1) := by decide +kernel
theorem dX0_obtain_77 : decode cX0_obtain 77 = .ok (.iload_n 2, 1) := by decide +kernel
theorem dX0_obtain_78 : decode cX0_obtain 78 = .ok (.iload 4, 2) := by decide +kernel
theorem dX0_obtain_80 : decode cX0_obtain 80 = .ok (.iload 5, 2) := by decide +kernel
theorem dX0_obtain_82 : decode cX0_obtain 82 = .ok (.invokevirtual 114, 3) := by decide +kernel
theorem dX0_obtain_85 : decode cX0_obtain 85 = .ok (.ireturn, 1) := by decide +kernel
theorem dX0_obtain_86 : decode cX0_obtain 86 = .ok (.aload_n 0, 1) := by decide +kernel
theorem dX0_obtain_87 : decode cX0_obtain 87 = .ok (.getfield 35, 3) := by decide +kernel
theorem dX0_obtain_90 : decode cX0_obtain 90 = .ok (.getfield 118, 3) := by decide +kernel
theorem dX0_obtain_93 : decode cX0_obtain 93 = .ok (.iload_n 3, 1) := by decide +kernel
theorem dX0_obtain_94 : decode cX0_obtain 94 = .ok (.dup2, 1) := by decide +kernel
theorem dX0_obtain_95 : decode cX0_obtain 95 = .ok (.iaload, 1) := by decide +kernel
theorem dX0_obtain_96 : decode cX0_obtain 96 = .ok (.iconst 1, 1) := by decide +kernel
theorem dX0_obtain_97 : decode cX0_obtain 97 = .ok (.iadd, 1) := by decide +kernel
theorem dX0_obtain_98 : decode cX0_obtain 98 = .ok (.iastore, 1) := by decide +kernel
theorem dX0_obtain_99 : decode cX0_obtain 99 = .ok (.aload_n 0, 1) := by decide +kernel
theorem dX0_obtain_100 : decode cX0_obtain 100 = .ok (.getfield 28, 3) := by decide +kernel
theorem dX0_obtain_103 : decode cX0_obtain 103 = .ok (.getfield 121, 3) := by decide +kernel
theorem dX0_obtain_106 : decode cX0_obtain 106 = .ok (.iload_n 1, 1) := by decide +kernel
theorem dX0_obtain_107 : decode cX0_obtain 107 = .ok (.dup2, 1) := by decide +kernel
theorem dX0_obtain_108 : decode cX0_obtain 108 = .ok (.iaload, 1) := by decide +kernel
theorem dX0_obtain_109 : decode cX0_obtain 109 = .ok (.aload_n 0, 1) := by decide +kernel
theorem dX0_obtain_110 : decode cX0_obtain 110 = .ok (.getfield 12, 3) := by decide +kernel
theorem dX0_obtain_113 : decode cX0_obtain 113 = .ok (.getfield 103, 3) := by decide +kernel
theorem dX0_obtain_116 : decode cX0_obtain 116 = .ok (.iload_n 2, 1) := by decide +kernel
theorem dX0_obtain_117 : decode cX0_obtain 117 = .ok (.iaload, 1) := by decide +kernel
theorem dX0_obtain_118 : decode cX0_obtain 118 = .ok (.iadd, 1) := by decide +kernel
theorem dX0_obtain_119 : decode cX0_obtain 119 = .ok (.iastore, 1) := by decide +kernel
theorem dX0_obtain_120 : decode cX0_obtain 120 = .ok (.aload_n 0, 1) := by decide +kernel
theorem dX0_obtain_121 : decode cX0_obtain 121 = .ok (.invokevirtual 124, 3) := by decide +kernel
theorem dX0_obtain_124 : decode cX0_obtain 124 = .ok (.ifCond .eq 28, 3) := by decide +kernel
theorem dX0_obtain_127 : decode cX0_obtain 127 = .ok (.aload_n 0, 1) := by decide +kernel
theorem dX0_obtain_128 : decode cX0_obtain 128 = .ok (.iload_n 3, 1) := by decide +kernel
theorem dX0_obtain_129 : decode cX0_obtain 129 = .ok (.iload_n 2, 1) := by decide +kernel
theorem dX0_obtain_130 : decode cX0_obtain 130 = .ok (.invokevirtual 128, 3) := by decide +kernel
theorem dX0_obtain_133 : decode cX0_obtain 133 = .ok (.iconst 2, 1) := by decide +kernel
theorem dX0_obtain_134 : decode cX0_obtain 134 = .ok (.if_icmp .ne 18, 3) := by decide +kernel
theorem dX0_obtain_137 : decode cX0_obtain 137 = .ok (.aload_n 0, 1) := by decide +kernel
theorem dX0_obtain_138 : decode cX0_obtain 138 = .ok (.iload_n 1, 1) := by decide +kernel
theorem dX0_obtain_139 : decode cX0_obtain 139 = .ok (.iload_n 2, 1) := by decide +kernel
theorem dX0_obtain_140 : decode cX0_obtain 140 = .ok (.aload_n 0, 1) := by decide +kernel
theorem dX0_obtain_141 : decode cX0_obtain 141 = .ok (.getfield 131, 3) := by decide +kernel
theorem dX0_obtain_144 : decode cX0_obtain 144 = .ok (.aload_n 0, 1) := by decide +kernel
theorem dX0_obtain_145 : decode cX0_obtain 145 = .ok (.getfield 135, 3) := by decide +kernel
theorem dX0_obtain_148 : decode cX0_obtain 148 = .ok (.invokevirtual 114, 3) := by decide +kernel
theorem dX0_obtain_151 : decode cX0_obtain 151 = .ok (.ireturn, 1) := by decide +kernel
theorem dX0_obtain_152 : decode cX0_obtain 152 = .ok (.aload_n 0, 1) := by decide +kernel
theorem dX0_obtain_153 : decode cX0_obtain 153 = .ok (.getfield 42, 3) := by decide +kernel
theorem dX0_obtain_156 : decode cX0_obtain 156 = .ok (.getfield 72, 3) := by decide +kernel
theorem dX0_obtain_159 : decode cX0_obtain 159 = .ok (.iload_n 2, 1) := by decide +kernel
theorem dX0_obtain_160 : decode cX0_obtain 160 = .ok (.aload_n 0, 1) := by decide +kernel
theorem dX0_obtain_161 : decode cX0_obtain 161 = .ok (.getfield 35, 3) := by decide +kernel
theorem dX0_obtain_164 : decode cX0_obtain 164 = .ok (.getfield 138, 3) := by decide +kernel
theorem dX0_obtain_167 : decode cX0_obtain 167 = .ok (.iload_n 3, 1) := by decide +kernel
theorem dX0_obtain_168 : decode cX0_obtain 168 = .ok (.iaload, 1) := by decide +kernel
theorem dX0_obtain_169 : decode cX0_obtain 169 = .ok (.iastore, 1) := by decide +kernel
theorem dX0_obtain_170 : decode cX0_obtain 170 = .ok (.aload_n 0, 1) := by decide +kernel
theorem dX0_obtain_171 : decode cX0_obtain 171 = .ok (.getfield 42, 3) := by decide +kernel
theorem dX0_obtain_174 : decode cX0_obtain 174 = .ok (.getfield 139, 3) := by decide +kernel
theorem dX0_obtain_177 : decode cX0_obtain 177 = .ok (.iload_n 2, 1) := by decide +kernel
theorem dX0_obtain_178 : decode cX0_obtain 178 = .ok (.iload_n 3, 1) := by decide +kernel
theorem dX0_obtain_179 : decode cX0_obtain 179 = .ok (.iastore, 1) := by decide +kernel
theorem dX0_obtain_180 : decode cX0_obtain 180 = .ok (.iconst 1, 1) := by decide +kernel
theorem dX0_obtain_181 : decode cX0_obtain 181 = .ok (.ireturn, 1) := by decide +kernel
theorem dX0_isCheckDue_0 : decode cX0_isCheckDue 0 = .ok (.aload_n 0, 1) := by decide +kernel
theorem dX0_isCheckDue_1 : decode cX0_isCheckDue 1 = .ok (.getfield 142, 3) := by decide +kernel
theorem dX0_isCheckDue_4 : decode cX0_isCheckDue 4 = .ok (.ifCond .le 22, 3) := by decide +kernel
theorem dX0_isCheckDue_7 : decode cX0_isCheckDue 7 = .ok (.aload_n 0, 1) := by decide +kernel
theorem dX0_isCheckDue_8 : decode cX0_isCheckDue 8 = .ok (.getfield 35, 3) := by decide +kernel
theorem dX0_isCheckDue_11 : decode cX0_isCheckDue 11 = .ok (.invokevirtual 145, 3) := by decide +kernel
theorem dX0_isCheckDue_14 : decode cX0_isCheckDue 14 = .ok (.aload_n 0, 1) := by decide +kernel
theorem dX0_isCheckDue_15 : decode cX0_isCheckDue 15 = .ok (.getfield 142, 3) := by decide +kernel
theorem dX0_isCheckDue_18 : decode cX0_isCheckDue 18 = .ok (.irem, 1) := by decide +kernel
theorem dX0_isCheckDue_19 : decode cX0_isCheckDue 19 = .ok (.ifCond .ne 7, 3) := by decide +kernel
theorem dX0_isCheckDue_22 : decode cX0_isCheckDue 22 = .ok (.iconst 1, 1) := by decide +kernel
theorem dX0_isCheckDue_23 : decode cX0_isCheckDue 23 = .ok (.goto 4, 3) := by decide +kernel
theorem dX0_isCheckDue_26 : decode cX0_isCheckDue 26 = .ok (.iconst 0, 1) := by decide +kernel
theorem dX0_isCheckDue_27 : decode cX0_isCheckDue 27 = .ok (.ireturn, 1) := by decide +kernel
theorem dX0_enter_0 : decode cX0_enter 0 = .ok (.aload_n 0, 1) := by decide +kernel
theorem dX0_enter_1 : decode cX0_enter 1 = .ok (.getfield 35, 3) := by decide +kernel
theorem dX0_enter_4 : decode cX0_enter 4 = .ok (.invokevirtual 148, 3) := by decide +kernel
theorem dX0_enter_7 : decode cX0_enter 7 = .ok (.ifCond .ne 17, 3) := by decide +kernel
theorem dX0_enter_10 : decode cX0_enter 10 = .ok (.iload_n 1, 1) := by decide +kernel
theorem dX0_enter_11 : decode cX0_enter 11 = .ok (.aload_n 0, 1) := by decide +kernel
theorem dX0_enter_12 : decode cX0_enter 12 = .ok (.getfield 28, 3) := by decide +kernel
theorem dX0_enter_15 : decode cX0_enter 15 = .ok (.getfield 151, 3) := by decide +kernel
theorem dX0_enter_18 : decode cX0_enter 18 = .ok (.invokestatic 154, 3) := by decide +kernel
theorem dX0_enter_21 : decode cX0_enter 21 = .ok (.ifCond .ne 5, 3) := by decide +kernel
theorem dX0_enter_24 : decode cX0_enter 24 = .ok (.iconst 0, 1) := by decide +kernel
theorem dX0_enter_25 : decode cX0_enter 25 = .ok (.ireturn, 1) := by decide +kernel
theorem dX0_enter_26 : decode cX0_enter 26 = .ok (.aload_n 0, 1) := by decide +kernel
theorem dX0_enter_27 : decode cX0_enter 27 = .ok (.getfield 28, 3) := by decide +kernel
theorem dX0_enter_30 : decode cX0_enter 30 = .ok (.getfield 79, 3) := by decide +kernel
theorem dX0_enter_33 : decode cX0_enter 33 = .ok (.iload_n 1, 1) := by decide +kernel
theorem dX0_enter_34 : decode cX0_enter 34 = .ok (.iaload, 1) := by decide +kernel
theorem dX0_enter_35 : decode cX0_enter 35 = .ok (.aload_n 0, 1) := by decide +kernel
theorem dX0_enter_36 : decode cX0_enter 36 = .ok (.getfield 12, 3) := by decide +kernel
theorem dX0_enter_39 : decode cX0_enter 39 = .ok (.getfield 157, 3) := by decide +kernel
theorem dX0_enter_42 : decode cX0_enter 42 = .ok (.iload_n 2, 1) := by decide +kernel
theorem dX0_enter_43 : decode cX0_enter 43 = .ok (.iaload, 1) := by decide +kernel
theorem dX0_enter_44 : decode cX0_enter 44 = .ok (.isub, 1) := by decide +kernel
theorem dX0_enter_45 : decode cX0_enter 45 = .ok (.istore 5, 2) := by decide +kernel
theorem dX0_enter_47 : decode cX0_enter 47 = .ok (.iload 5, 2) := by decide +kernel
theorem dX0_enter_49 : decode cX0_enter 49 = .ok (.ifCond .lt 14, 3) := by decide +kernel
theorem dX0_enter_52 : decode cX0_enter 52 = .ok (.aload_n 0, 1) := by decide +kernel
theorem dX0_enter_53 : decode cX0_enter 53 = .ok (.getfield 35, 3) := by decide +kernel
theorem dX0_enter_56 : decode cX0_enter 56 = .ok (.iload_n 1, 1) := by decide +kernel
theorem dX0_enter_57 : decode cX0_enter 57 = .ok (.iload 5, 2) := by decide +kernel
theorem dX0_enter_59 : decode cX0_enter 59 = .ok (.invokevirtual 82, 3) := by decide +kernel
theorem dX0_enter_62 : decode cX0_enter 62 = .ok (.pop, 1) := by decide +kernel
theorem dX0_enter_63 : decode cX0_enter 63 = .ok (.aload_n 0, 1) := by decide +kernel
theorem dX0_enter_64 : decode cX0_enter 64 = .ok (.getfield 35, 3) := by decide +kernel
theorem dX0_enter_67 : decode cX0_enter 67 = .ok (.aload_n 0, 1) := by decide +kernel
theorem dX0_enter_68 : decode cX0_enter 68 = .ok (.getfield 12, 3) := by decide +kernel
theorem dX0_enter_71 : decode cX0_enter 71 = .ok (.aload_n 0, 1) := by decide +kernel
theorem dX0_enter_72 : decode cX0_enter 72 = .ok (.getfield 42, 3) := by decide +kernel
theorem dX0_enter_75 : decode cX0_enter 75 = .ok (.iload_n 2, 1) := by decide +kernel
theorem dX0_enter_76 : decode cX0_enter 76 = .ok (.invokevirtual 160, 3) := by decide +kernel
theorem dX0_enter_79 : decode cX0_enter 79 = .ok (.istore 6, 2) := by decide +kernel
theorem dX0_enter_81 : decode cX0_enter 81 = .ok (.aload_n 0, 1) := by decide +kernel
theorem dX0_enter_82 : decode cX0_enter 82 = .ok (.getfield 35, 3) := by decide +kernel
theorem dX0_enter_85 : decode cX0_enter 85 = .ok (.getfield 163, 3) := by decide +kernel
theorem dX0_enter_88 : decode cX0_enter 88 = .ok (.iload 6, 2) := by decide +kernel
theorem dX0_enter_90 : decode cX0_enter 90 = .ok (.iload_n 3, 1) := by decide +kernel
theorem dX0_enter_91 : decode cX0_enter 91 = .ok (.iastore, 1) := by decide +kernel
theorem dX0_enter_92 : decode cX0_enter 92 = .ok (.aload_n 0, 1) := by decide +kernel
theorem dX0_enter_93 : decode cX0_enter 93 = .ok (.getfield 35, 3) := by decide +kernel
theorem dX0_enter_96 : decode cX0_enter 96 = .ok (.getfield 166, 3) := by decide +kernel
theorem dX0_enter_99 : decode cX0_enter 99 = .ok (.iload 6, 2) := by decide +kernel
theorem dX0_enter_101 : decode cX0_enter 101 = .ok (.iload_n 1, 1) := by decide +kernel
theorem dX0_enter_102 : decode cX0_enter 102 = .ok (.iastore, 1) := by decide +kernel
theorem dX0_enter_103 : decode cX0_enter 103 = .ok (.aload_n 0, 1) := by decide +kernel
theorem dX0_enter_104 : decode cX0_enter 104 = .ok (.getfield 35, 3) := by decide +kernel
theorem dX0_enter_107 : decode cX0_enter 107 = .ok (.getfield 138, 3) := by decide +kernel
theorem dX0_enter_110 : decode cX0_enter 110 = .ok (.iload 6, 2) := by decide +kernel
theorem dX0_enter_112 : decode cX0_enter 112 = .ok (.iload 4, 2) := by decide +kernel
theorem dX0_enter_114 : decode cX0_enter 114 = .ok (.iastore, 1) := by decide +kernel
theorem dX0_enter_115 : decode cX0_enter 115 = .ok (.aload_n 0, 1) := by decide +kernel
theorem dX0_enter_116 : decode cX0_enter 116 = .ok (.getfield 35, 3) := by decide +kernel
theorem dX0_enter_119 : decode cX0_enter 119 = .ok (.getfield 169, 3) := by decide +kernel
theorem dX0_enter_122 : decode cX0_enter 122 = .ok (.iload 6, 2) := by decide +kernel
theorem dX0_enter_124 : decode cX0_enter 124 = .ok (.iload 5, 2) := by decide +kernel
theorem dX0_enter_126 : decode cX0_enter 126 = .ok (.ifCond .lt 7, 3) := by decide +kernel
theorem dX0_enter_129 : decode cX0_enter 129 = .ok (.iconst 0, 1) := by decide +kernel
theorem dX0_enter_130 : decode cX0_enter 130 = .ok (.goto 4, 3) := by decide +kernel
theorem dX0_enter_133 : decode cX0_enter 133 = .ok (.iconst 1, 1) := by decide +kernel
theorem dX0_enter_134 : decode cX0_enter 134 = .ok (.iastore, 1) := by decide +kernel
theorem dX0_enter_135 : decode cX0_enter 135 = .ok (.aload_n 0, 1) := by decide +kernel
theorem dX0_enter_136 : decode cX0_enter 136 = .ok (.getfield 42, 3) := by decide +kernel
theorem dX0_enter_139 : decode cX0_enter 139 = .ok (.getfield 72, 3) := by decide +kernel
theorem dX0_enter_142 : decode cX0_enter 142 = .ok (.iload_n 2, 1) := by decide +kernel
theorem dX0_enter_143 : decode cX0_enter 143 = .ok (.iload 4, 2) := by decide +kernel
theorem dX0_enter_145 : decode cX0_enter 145 = .ok (.iastore, 1) := by decide +kernel
theorem dX0_enter_146 : decode cX0_enter 146 = .ok (.aload_n 0, 1) := by decide +kernel
theorem dX0_enter_147 : decode cX0_enter 147 = .ok (.getfield 42, 3) := by decide +kernel
theorem dX0_enter_150 : decode cX0_enter 150 = .ok (.getfield 139, 3) := by decide +kernel
theorem dX0_enter_153 : decode cX0_enter 153 = .ok (.iload_n 2, 1) := by decide +kernel
theorem dX0_enter_154 : decode cX0_enter 154 = .ok (.iload 6, 2) := by decide +kernel
theorem dX0_enter_156 : decode cX0_enter 156 = .ok (.iastore, 1) := by decide +kernel
theorem dX0_enter_157 : decode cX0_enter 157 = .ok (.iconst 1, 1) := by decide +kernel
theorem dX0_enter_158 : decode cX0_enter 158 = .ok (.ireturn, 1) := by decide +kernel
theorem dX0_checkAgain_0 : decode cX0_checkAgain 0 = .ok (.aload_n 0, 1) := by decide +kernel
theorem dX0_checkAgain_1 : decode cX0_checkAgain 1 = .ok (.getfield 35, 3) := by decide +kernel
theorem dX0_checkAgain_4 : decode cX0_checkAgain 4 = .ok (.getfield 172, 3) := by decide +kernel
theorem dX0_checkAgain_7 : decode cX0_checkAgain 7 = .ok (.iload_n 1, 1) := by decide +kernel
theorem dX0_checkAgain_8 : decode cX0_checkAgain 8 = .ok (.iaload, 1) := by decide +kernel
theorem dX0_checkAgain_9 : decode cX0_checkAgain 9 = .ok (.istore_n 2, 1) := by decide +kernel
theorem dX0_checkAgain_10 : decode cX0_checkAgain 10 = .ok (.iconst 0, 1) := by decide +kernel
theorem dX0_checkAgain_11 : decode cX0_checkAgain 11 = .ok (.istore_n 3, 1) := by decide +kernel
theorem dX0_checkAgain_12 : decode cX0_checkAgain 12 = .ok (.iload_n 3, 1) := by decide +kernel
theorem dX0_checkAgain_13 : decode cX0_checkAgain 13 = .ok (.bipush 14, 2) := by decide +kernel
theorem dX0_checkAgain_15 : decode cX0_checkAgain 15 = .ok (.if_icmp .ge 55, 3) := by decide +kernel
theorem dX0_checkAgain_18 : decode cX0_checkAgain 18 = .ok (.aload_n 0, 1) := by decide +kernel
theorem dX0_checkAgain_19 : decode cX0_checkAgain 19 = .ok (.getfield 42, 3) := by decide +kernel
theorem dX0_checkAgain_22 : decode cX0_checkAgain 22 = .ok (.getfield 72, 3) := by decide +kernel
theorem dX0_checkAgain_25 : decode cX0_checkAgain 25 = .ok (.iload_n 3, 1) := by decide +kernel
theorem dX0_checkAgain_26 : decode cX0_checkAgain 26 = .ok (.aload_n 0, 1) := by decide +kernel
theorem dX0_checkAgain_27 : decode cX0_checkAgain 27 = .ok (.getfield 35, 3) := by decide +kernel
theorem dX0_checkAgain_30 : decode cX0_checkAgain 30 = .ok (.getfield 175, 3) := by decide +kernel
theorem dX0_checkAgain_33 : decode cX0_checkAgain 33 = .ok (.iload_n 1, 1) := by decide +kernel
theorem dX0_checkAgain_34 : decode cX0_checkAgain 34 = .ok (.bipush 14, 2) := by decide +kernel
theorem dX0_checkAgain_36 : decode cX0_checkAgain 36 = .ok (.imul, 1) := by decide +kernel
theorem dX0_checkAgain_37 : decode cX0_checkAgain 37 = .ok (.iload_n 3, 1) := by decide +kernel
theorem dX0_checkAgain_38 : decode cX0_checkAgain 38 = .ok (.iadd, 1) := by decide +kernel
theorem dX0_checkAgain_39 : decode cX0_checkAgain 39 = .ok (.iaload, 1) := by decide +kernel
theorem dX0_checkAgain_40 : decode cX0_checkAgain 40 = .ok (.iastore, 1) := by decide +kernel
theorem dX0_checkAgain_41 : decode cX0_checkAgain 41 = .ok (.aload_n 0, 1) := by decide +kernel
theorem dX0_checkAgain_42 : decode cX0_checkAgain 42 = .ok (.getfield 42, 3) := by decide +kernel
theorem dX0_checkAgain_45 : decode cX0_checkAgain 45 = .ok (.getfield 139, 3) := by decide +kernel
theorem dX0_checkAgain_48 : decode cX0_checkAgain 48 = .ok (.iload_n 3, 1) := by decide +kernel
theorem dX0_checkAgain_49 : decode cX0_checkAgain 49 = .ok (.aload_n 0, 1) := by decide +kernel
theorem dX0_checkAgain_50 : decode cX0_checkAgain 50 = .ok (.getfield 35, 3) := by decide +kernel
theorem dX0_checkAgain_53 : decode cX0_checkAgain 53 = .ok (.getfield 178, 3) := by decide +kernel
theorem dX0_checkAgain_56 : decode cX0_checkAgain 56 = .ok (.iload_n 1, 1) := by decide +kernel
theorem dX0_checkAgain_57 : decode cX0_checkAgain 57 = .ok (.bipush 14, 2) := by decide +kernel
theorem dX0_checkAgain_59 : decode cX0_checkAgain 59 = .ok (.imul, 1) := by decide +kernel
theorem dX0_checkAgain_60 : decode cX0_checkAgain 60 = .ok (.iload_n 3, 1) := by decide +kernel
theorem dX0_checkAgain_61 : decode cX0_checkAgain 61 = .ok (.iadd, 1) := by decide +kernel
theorem dX0_checkAgain_62 : decode cX0_checkAgain 62 = .ok (.iaload, 1) := by decide +kernel
theorem dX0_checkAgain_63 : decode cX0_checkAgain 63 = .ok (.iastore, 1) := by decide +kernel
theorem dX0_checkAgain_64 : decode cX0_checkAgain 64 = .ok (.iinc 3 1, 3) := by decide +kernel
theorem dX0_checkAgain_67 : decode cX0_checkAgain 67 = .ok (.goto (-55), 3) := by decide +kernel
theorem dX0_checkAgain_70 : decode cX0_checkAgain 70 = .ok (.aload_n 0, 1) := by decide +kernel
theorem dX0_checkAgain_71 : decode cX0_checkAgain 71 = .ok (.iload_n 1, 1) := by decide +kernel
theorem dX0_checkAgain_72 : decode cX0_checkAgain 72 = .ok (.iload_n 2, 1) := by decide +kernel
theorem dX0_checkAgain_73 : decode cX0_checkAgain 73 = .ok (.invokevirtual 128, 3) := by decide +kernel
theorem dX0_checkAgain_76 : decode cX0_checkAgain 76 = .ok (.istore_n 3, 1) := by decide +kernel
theorem dX0_checkAgain_77 : decode cX0_checkAgain 77 = .ok (.iload_n 3, 1) := by decide +kernel
theorem dX0_checkAgain_78 : decode cX0_checkAgain 78 = .ok (.iconst 2, 1) := by decide +kernel
theorem dX0_checkAgain_79 : decode cX0_checkAgain 79 = .ok (.if_icmp .ne 26, 3) := by decide +kernel
theorem dX0_checkAgain_82 : decode cX0_checkAgain 82 = .ok (.aload_n 0, 1) := by decide +kernel
theorem dX0_checkAgain_83 : decode cX0_checkAgain 83 = .ok (.aload_n 0, 1) := by decide +kernel
theorem dX0_checkAgain_84 : decode cX0_checkAgain 84 = .ok (.getfield 35, 3) := by decide +kernel
theorem dX0_checkAgain_87 : decode cX0_checkAgain 87 = .ok (.getfield 166, 3) := by decide +kernel
theorem dX0_checkAgain_90 : decode cX0_checkAgain 90 = .ok (.iload_n 1, 1) := by decide +kernel
theorem dX0_checkAgain_91 : decode cX0_checkAgain 91 = .ok (.iaload, 1) := by decide +kernel
theorem dX0_checkAgain_92 : decode cX0_checkAgain 92 = .ok (.iload_n 2, 1) := by decide +kernel
theorem dX0_checkAgain_93 : decode cX0_checkAgain 93 = .ok (.aload_n 0, 1) := by decide +kernel
theorem dX0_checkAgain_94 : decode cX0_checkAgain 94 = .ok (.getfield 131, 3) := by decide +kernel
theorem dX0_checkAgain_97 : decode cX0_checkAgain 97 = .ok (.aload_n 0, 1) := by decide +kernel
theorem dX0_checkAgain_98 : decode cX0_checkAgain 98 = .ok (.getfield 135, 3) := by decide +kernel
theorem dX0_checkAgain_101 : decode cX0_checkAgain 101 = .ok (.invokevirtual 114, 3) := by decide +kernel
theorem dX0_checkAgain_104 : decode cX0_checkAgain 104 = .ok (.pop, 1) := by decide +kernel
theorem dX0_checkAgain_105 : decode cX0_checkAgain 105 = .ok (.iload_n 3, 1) := by decide +kernel
theorem dX0_checkAgain_106 : decode cX0_checkAgain 106 = .ok (.ireturn, 1) := by decide +kernel
theorem dX0_compareWithRun_0 : decode cX0_compareWithRun 0 = .ok (.aload_n 0, 1) := by decide +kernel
theorem dX0_compareWithRun_1 : decode cX0_compareWithRun 1 = .ok (.getfield 35, 3) := by decide +kernel
theorem dX0_compareWithRun_4 : decode cX0_compareWithRun 4 = .ok (.getfield 163, 3) := by decide +kernel
theorem dX0_compareWithRun_7 : decode cX0_compareWithRun 7 = .ok (.iload_n 1, 1) := by decide +kernel
theorem dX0_compareWithRun_8 : decode cX0_compareWithRun 8 = .ok (.iaload, 1) := by decide +kernel
theorem dX0_compareWithRun_9 : decode cX0_compareWithRun 9 = .ok (.istore_n 3, 1) := by decide +kernel
theorem dX0_compareWithRun_10 : decode cX0_compareWithRun 10 = .ok (.aload_n 0, 1) := by decide +kernel
theorem dX0_compareWithRun_11 : decode cX0_compareWithRun 11 = .ok (.aload_n 0, 1) := by decide +kernel
theorem dX0_compareWithRun_12 : decode cX0_compareWithRun 12 = .ok (.getfield 21, 3) := by decide +kernel
theorem dX0_compareWithRun_15 : decode cX0_compareWithRun 15 = .ok (.iload_n 3, 1) := by decide +kernel
theorem dX0_compareWithRun_16 : decode cX0_compareWithRun 16 = .ok (.invokevirtual 100, 3) := by decide +kernel
theorem dX0_compareWithRun_19 : decode cX0_compareWithRun 19 = .ok (.putfield 131, 3) := by decide +kernel
theorem dX0_compareWithRun_22 : decode cX0_compareWithRun 22 = .ok (.aload_n 0, 1) := by decide +kernel
theorem dX0_compareWithRun_23 : decode cX0_compareWithRun 23 = .ok (.getfield 131, 3) := by decide +kernel
theorem dX0_compareWithRun_26 : decode cX0_compareWithRun 26 = .ok (.iconst (-1), 1) := by decide +kernel
theorem dX0_compareWithRun_27 : decode cX0_compareWithRun 27 = .ok (.if_icmp .ne 5, 3) := by decide +kernel
theorem dX0_compareWithRun_30 : decode cX0_compareWithRun 30 = .ok (.iconst 0, 1) := by decide +kernel
theorem dX0_compareWithRun_31 : decode cX0_compareWithRun 31 = .ok (.ireturn, 1) := by decide +kernel
theorem dX0_compareWithRun_32 : decode cX0_compareWithRun 32 = .ok (.aload_n 0, 1) := by decide +kernel
theorem dX0_compareWithRun_33 : decode cX0_compareWithRun 33 = .ok (.aload_n 0, 1) := by decide +kernel
theorem dX0_compareWithRun_34 : decode cX0_compareWithRun 34 = .ok (.getfield 21, 3) := by decide +kernel
theorem dX0_compareWithRun_37 : decode cX0_compareWithRun 37 = .ok (.aload_n 0, 1) := by decide +kernel
theorem dX0_compareWithRun_38 : decode cX0_compareWithRun 38 = .ok (.getfield 131, 3) := by decide +kernel
theorem dX0_compareWithRun_41 : decode cX0_compareWithRun 41 = .ok (.aload_n 0, 1) := by decide +kernel
theorem dX0_compareWithRun_42 : decode cX0_compareWithRun 42 = .ok (.getfield 12, 3) := by decide +kernel
theorem dX0_compareWithRun_45 : decode cX0_compareWithRun 45 = .ok (.getfield 103, 3) := by decide +kernel
theorem dX0_compareWithRun_48 : decode cX0_compareWithRun 48 = .ok (.iload_n 2, 1) := by decide +kernel
theorem dX0_compareWithRun_49 : decode cX0_compareWithRun 49 = .ok (.iaload, 1) := by decide +kernel
theorem dX0_compareWithRun_50 : decode cX0_compareWithRun 50 = .ok (.aload_n 0, 1) := by decide +kernel
theorem dX0_compareWithRun_51 : decode cX0_compareWithRun 51 = .ok (.getfield 12, 3) := by decide +kernel
theorem dX0_compareWithRun_54 : decode cX0_compareWithRun 54 = .ok (.iload_n 2, 1) := by decide +kernel
theorem dX0_compareWithRun_55 : decode cX0_compareWithRun 55 = .ok (.aload_n 0, 1) := by decide +kernel
theorem dX0_compareWithRun_56 : decode cX0_compareWithRun 56 = .ok (.getfield 42, 3) := by decide +kernel
theorem dX0_compareWithRun_59 : decode cX0_compareWithRun 59 = .ok (.getfield 72, 3) := by decide +kernel
theorem dX0_compareWithRun_62 : decode cX0_compareWithRun 62 = .ok (.invokevirtual 106, 3) := by decide +kernel
theorem dX0_compareWithRun_65 : decode cX0_compareWithRun 65 = .ok (.invokevirtual 110, 3) := by decide +kernel
theorem dX0_compareWithRun_68 : decode cX0_compareWithRun 68 = .ok (.putfield 135, 3) := by decide +kernel
theorem dX0_compareWithRun_71 : decode cX0_compareWithRun 71 = .ok (.aload_n 0, 1) := by decide +kernel
theorem dX0_compareWithRun_72 : decode cX0_compareWithRun 72 = .ok (.getfield 21, 3) := by decide +kernel
theorem dX0_compareWithRun_75 : decode cX0_compareWithRun 75 = .ok (.getfield 181, 3) := by decide +kernel
theorem dX0_compareWithRun_78 : decode cX0_compareWithRun 78 = .ok (.aload_n 0, 1) := by decide +kernel
theorem dX0_compareWithRun_79 : decode cX0_compareWithRun 79 = .ok (.getfield 131, 3) := by decide +kernel
theorem dX0_compareWithRun_82 : decode cX0_compareWithRun 82 = .ok (.dup2, 1) := by decide +kernel
theorem dX0_compareWithRun_83 : decode cX0_compareWithRun 83 = .ok (.iaload, 1) := by decide +kernel
theorem dX0_compareWithRun_84 : decode cX0_compareWithRun 84 = .ok (.iconst 1, 1) := by decide +kernel
theorem dX0_compareWithRun_85 : decode cX0_compareWithRun 85 = .ok (.iadd, 1) := by decide +kernel
theorem dX0_compareWithRun_86 : decode cX0_compareWithRun 86 = .ok (.iastore, 1) := by decide +kernel
theorem dX0_compareWithRun_87 : decode cX0_compareWithRun 87 = .ok (.aload_n 0, 1) := by decide +kernel
theorem dX0_compareWithRun_88 : decode cX0_compareWithRun 88 = .ok (.getfield 135, 3) := by decide +kernel
theorem dX0_compareWithRun_91 : decode cX0_compareWithRun 91 = .ok (.aload_n 0, 1) := by decide +kernel
theorem dX0_compareWithRun_92 : decode cX0_compareWithRun 92 = .ok (.getfield 35, 3) := by decide +kernel
theorem dX0_compareWithRun_95 : decode cX0_compareWithRun 95 = .ok (.getfield 138, 3) := by decide +kernel
theorem dX0_compareWithRun_98 : decode cX0_compareWithRun 98 = .ok (.iload_n 1, 1) := by decide +kernel
theorem dX0_compareWithRun_99 : decode cX0_compareWithRun 99 = .ok (.iaload, 1) := by decide +kernel
theorem dX0_compareWithRun_100 : decode cX0_compareWithRun 100 = .ok (.if_icmp .ne 14, 3) := by decide +kernel
theorem dX0_compareWithRun_103 : decode cX0_compareWithRun 103 = .ok (.aload_n 0, 1) := by decide +kernel
theorem dX0_compareWithRun_104 : decode cX0_compareWithRun 104 = .ok (.getfield 21, 3) := by decide +kernel
theorem dX0_compareWithRun_107 : decode cX0_compareWithRun 107 = .ok (.iload_n 3, 1) := by decide +kernel
theorem dX0_compareWithRun_108 : decode cX0_compareWithRun 108 = .ok (.iconst 5, 1) := by decide +kernel
theorem dX0_compareWithRun_109 : decode cX0_compareWithRun 109 = .ok (.invokevirtual 184, 3) := by decide +kernel
theorem dX0_compareWithRun_112 : decode cX0_compareWithRun 112 = .ok (.iconst 1, 1) := by decide +kernel
theorem dX0_compareWithRun_113 : decode cX0_compareWithRun 113 = .ok (.ireturn, 1) := by decide +kernel
theorem dX0_compareWithRun_114 : decode cX0_compareWithRun 114 = .ok (.aload_n 0, 1) := by decide +kernel
theorem dX0_compareWithRun_115 : decode cX0_compareWithRun 115 = .ok (.getfield 35, 3) := by decide +kernel
theorem dX0_compareWithRun_118 : decode cX0_compareWithRun 118 = .ok (.dup, 1) := by decide +kernel
theorem dX0_compareWithRun_119 : decode cX0_compareWithRun 119 = .ok (.getfield 188, 3) := by decide +kernel
theorem dX0_compareWithRun_122 : decode cX0_compareWithRun 122 = .ok (.iconst 1, 1) := by decide +kernel
theorem dX0_compareWithRun_123 : decode cX0_compareWithRun 123 = .ok (.iadd, 1) := by decide +kernel
theorem dX0_compareWithRun_124 : decode cX0_compareWithRun 124 = .ok (.putfield 188, 3) := by decide +kernel
theorem dX0_compareWithRun_127 : decode cX0_compareWithRun 127 = .ok (.aload_n 0, 1) := by decide +kernel
theorem dX0_compareWithRun_128 : decode cX0_compareWithRun 128 = .ok (.getfield 35, 3) := by decide +kernel
theorem dX0_compareWithRun_131 : decode cX0_compareWithRun 131 = .ok (.aload_n 0, 1) := by decide +kernel
theorem dX0_compareWithRun_132 : decode cX0_compareWithRun 132 = .ok (.getfield 12, 3) := by decide +kernel
theorem dX0_compareWithRun_135 : decode cX0_compareWithRun 135 = .ok (.iload_n 1, 1) := by decide +kernel
theorem dX0_compareWithRun_136 : decode cX0_compareWithRun 136 = .ok (.invokevirtual 191, 3) := by decide +kernel
theorem dX0_compareWithRun_139 : decode cX0_compareWithRun 139 = .ok (.aload_n 0, 1) := by decide +kernel
theorem dX0_compareWithRun_140 : decode cX0_compareWithRun 140 = .ok (.getfield 12, 3) := by decide +kernel
theorem dX0_compareWithRun_143 : decode cX0_compareWithRun 143 = .ok (.getfield 195, 3) := by decide +kernel
theorem dX0_compareWithRun_146 : decode cX0_compareWithRun 146 = .ok (.iload_n 2, 1) := by decide +kernel
theorem dX0_compareWithRun_147 : decode cX0_compareWithRun 147 = .ok (.iaload, 1) := by decide +kernel
theorem dX0_compareWithRun_148 : decode cX0_compareWithRun 148 = .ok (.iand, 1) := by decide +kernel
theorem dX0_compareWithRun_149 : decode cX0_compareWithRun 149 = .ok (.istore 4, 2) := by decide +kernel
theorem dX0_compareWithRun_151 : decode cX0_compareWithRun 151 = .ok (.iload 4, 2) := by decide +kernel
theorem dX0_compareWithRun_153 : decode cX0_compareWithRun 153 = .ok (.ifCond .eq 30, 3) := by decide +kernel
theorem dX0_compareWithRun_156 : decode cX0_compareWithRun 156 = .ok (.aload_n 0, 1) := by decide +kernel
theorem dX0_compareWithRun_157 : decode cX0_compareWithRun 157 = .ok (.getfield 12, 3) := by decide +kernel
theorem dX0_compareWithRun_160 : decode cX0_compareWithRun 160 = .ok (.getfield 195, 3) := by decide +kernel
theorem dX0_compareWithRun_163 : decode cX0_compareWithRun 163 = .ok (.iload_n 2, 1) := by decide +kernel
theorem dX0_compareWithRun_164 : decode cX0_compareWithRun 164 = .ok (.dup2, 1) := by decide +kernel
theorem dX0_compareWithRun_165 : decode cX0_compareWithRun 165 = .ok (.iaload, 1) := by decide +kernel
theorem dX0_compareWithRun_166 : decode cX0_compareWithRun 166 = .ok (.iload 4, 2) := by decide +kernel
theorem dX0_compareWithRun_168 : decode cX0_compareWithRun 168 = .ok (.iconst (-1), 1) := by decide +kernel
theorem dX0_compareWithRun_169 : decode cX0_compareWithRun 169 = .ok (.ixor, 1) := by decide +kernel
theorem dX0_compareWithRun_170 : decode cX0_compareWithRun 170 = .ok (.iand, 1) := by decide +kernel
theorem dX0_compareWithRun_171 : decode cX0_compareWithRun 171 = .ok (.iastore, 1) := by decide +kernel
theorem dX0_compareWithRun_172 : decode cX0_compareWithRun 172 = .ok (.aload_n 0, 1) := by decide +kernel
theorem dX0_compareWithRun_173 : decode cX0_compareWithRun 173 = .ok (.getfield 35, 3) := by decide +kernel
theorem dX0_compareWithRun_176 : decode cX0_compareWithRun 176 = .ok (.iload_n 2, 1) := by decide +kernel
theorem dX0_compareWithRun_177 : decode cX0_compareWithRun 177 = .ok (.invokevirtual 198, 3) := by decide +kernel
theorem dX0_compareWithRun_180 : decode cX0_compareWithRun 180 = .ok (.goto 13, 3) := by decide +kernel
theorem dX0_compareWithRun_183 : decode cX0_compareWithRun 183 = .ok (.aload_n 0, 1) := by decide +kernel
theorem dX0_compareWithRun_184 : decode cX0_compareWithRun 184 = .ok (.getfield 21, 3) := by decide +kernel
theorem dX0_compareWithRun_187 : decode cX0_compareWithRun 187 = .ok (.iload_n 3, 1) := by decide +kernel
theorem dX0_compareWithRun_188 : decode cX0_compareWithRun 188 = .ok (.bipush (-30), 2) := by decide +kernel
theorem dX0_compareWithRun_190 : decode cX0_compareWithRun 190 = .ok (.invokevirtual 184, 3) := by decide +kernel
theorem dX0_compareWithRun_193 : decode cX0_compareWithRun 193 = .ok (.aload_n 0, 1) := by decide +kernel
theorem dX0_compareWithRun_194 : decode cX0_compareWithRun 194 = .ok (.getfield 35, 3) := by decide +kernel
theorem dX0_compareWithRun_197 : decode cX0_compareWithRun 197 = .ok (.iload_n 1, 1) := by decide +kernel
theorem dX0_compareWithRun_198 : decode cX0_compareWithRun 198 = .ok (.invokevirtual 202, 3) := by decide +kernel
theorem dX0_compareWithRun_201 : decode cX0_compareWithRun 201 = .ok (.iconst 2, 1) := by decide +kernel
theorem dX0_compareWithRun_202 : decode cX0_compareWithRun 202 = .ok (.ireturn, 1) := by decide +kernel
theorem dX1_init_0 : decode cX1_init 0 = .ok (.aload_n 0, 1) := by decide +kernel
theorem dX1_init_1 : decode cX1_init 1 = .ok (.invokespecial 3, 3) := by decide +kernel
theorem dX1_init_4 : decode cX1_init 4 = .ok (.aload_n 0, 1) := by decide +kernel
theorem dX1_init_5 : decode cX1_init 5 = .ok (.bipush 60, 2) := by decide +kernel
theorem dX1_init_7 : decode cX1_init 7 = .ok (.newarray .int, 2) := by decide +kernel
theorem dX1_init_9 : decode cX1_init 9 = .ok (.putfield 9, 3) := by decide +kernel
theorem dX1_init_12 : decode cX1_init 12 = .ok (.aload_n 0, 1) := by decide +kernel
theorem dX1_init_13 : decode cX1_init 13 = .ok (.bipush 60, 2) := by decide +kernel
theorem dX1_init_15 : decode cX1_init 15 = .ok (.newarray .int, 2) := by decide +kernel
theorem dX1_init_17 : decode cX1_init 17 = .ok (.putfield 15, 3) := by decide +kernel
theorem dX1_init_20 : decode cX1_init 20 = .ok (.aload_n 0, 1) := by decide +kernel
theorem dX1_init_21 : decode cX1_init 21 = .ok (.bipush 60, 2) := by decide +kernel
theorem dX1_init_23 : decode cX1_init 23 = .ok (.newarray .int, 2) := by decide +kernel
theorem dX1_init_25 : decode cX1_init 25 = .ok (.putfield 18, 3) := by decide +kernel
theorem dX1_init_28 : decode cX1_init 28 = .ok (.aload_n 0, 1) := by decide +kernel
theorem dX1_init_29 : decode cX1_init 29 = .ok (.bipush 60, 2) := by decide +kernel
theorem dX1_init_31 : decode cX1_init 31 = .ok (.newarray .int, 2) := by decide +kernel
theorem dX1_init_33 : decode cX1_init 33 = .ok (.putfield 21, 3) := by decide +kernel
theorem dX1_init_36 : decode cX1_init 36 = .ok (.aload_n 0, 1) := by decide +kernel
theorem dX1_init_37 : decode cX1_init 37 = .ok (.bipush 60, 2) := by decide +kernel
theorem dX1_init_39 : decode cX1_init 39 = .ok (.newarray .int, 2) := by decide +kernel
theorem dX1_init_41 : decode cX1_init 41 = .ok (.putfield 24, 3) := by decide +kernel
theorem dX1_init_44 : decode cX1_init 44 = .ok (.aload_n 0, 1) := by decide +kernel
theorem dX1_init_45 : decode cX1_init 45 = .ok (.bipush 60, 2) := by decide +kernel
theorem dX1_init_47 : decode cX1_init 47 = .ok (.newarray .int, 2) := by decide +kernel
theorem dX1_init_49 : decode cX1_init 49 = .ok (.putfield 27, 3) := by decide +kernel
theorem dX1_init_52 : decode cX1_init 52 = .ok (.aload_n 0, 1) := by decide +kernel
theorem dX1_init_53 : decode cX1_init 53 = .ok (.bipush 60, 2) := by decide +kernel
theorem dX1_init_55 : decode cX1_init 55 = .ok (.newarray .int, 2) := by decide +kernel
theorem dX1_init_57 : decode cX1_init 57 = .ok (.putfield 30, 3) := by decide +kernel
theorem dX1_init_60 : decode cX1_init 60 = .ok (.aload_n 0, 1) := by decide +kernel
theorem dX1_init_61 : decode cX1_init 61 = .ok (.bipush 60, 2) := by decide +kernel
theorem dX1_init_63 : decode cX1_init 63 = .ok (.newarray .int, 2) := by decide +kernel
theorem dX1_init_65 : decode cX1_init 65 = .ok (.putfield 33, 3) := by decide +kernel
theorem dX1_init_68 : decode cX1_init 68 = .ok (.aload_n 0, 1) := by decide +kernel
theorem dX1_init_69 : decode cX1_init 69 = .ok (.sipush 480, 3) := by decide +kernel
theorem dX1_init_72 : decode cX1_init 72 = .ok (.newarray .int, 2) := by decide +kernel
theorem dX1_init_74 : decode cX1_init 74 = .ok (.putfield 36, 3) := by decide +kernel
theorem dX1_init_77 : decode cX1_init 77 = .ok (.aload_n 0, 1) := by decide +kernel
theorem dX1_init_78 : decode cX1_init 78 = .ok (.sipush 360, 3) := by decide +kernel
theorem dX1_init_81 : decode cX1_init 81 = .ok (.newarray .int, 2) := by decide +kernel
theorem dX1_init_83 : decode cX1_init 83 = .ok (.putfield 39, 3) := by decide +kernel
theorem dX1_init_86 : decode cX1_init 86 = .ok (.aload_n 0, 1) := by decide +kernel
theorem dX1_init_87 : decode cX1_init 87 = .ok (.sipush 840, 3) := by decide +kernel
theorem dX1_init_90 : decode cX1_init 90 = .ok (.newarray .int, 2) := by decide +kernel
theorem dX1_init_92 : decode cX1_init 92 = .ok (.putfield 42, 3) := by decide +kernel
theorem dX1_init_95 : decode cX1_init 95 = .ok (.aload_n 0, 1) := by decide +kernel
theorem dX1_init_96 : decode cX1_init 96 = .ok (.sipush 840, 3) := by decide +kernel
theorem dX1_init_99 : decode cX1_init 99 = .ok (.newarray .int, 2) := by decide +kernel
theorem dX1_init_101 : decode cX1_init 101 = .ok (.putfield 45, 3) := by decide +kernel
theorem dX1_init_104 : decode cX1_init 104 = .ok (.aload_n 0, 1) := by decide +kernel
theorem dX1_init_105 : decode cX1_init 105 = .ok (.bipush 60, 2) := by decide +kernel
theorem dX1_init_107 : decode cX1_init 107 = .ok (.newarray .long, 2) := by decide +kernel
theorem dX1_init_109 : decode cX1_init 109 = .ok (.putfield 48, 3) := by decide +kernel
theorem dX1_init_112 : decode cX1_init 112 = .ok (.return_, 1) := by decide +kernel
theorem dX1_isFull_0 : decode cX1_isFull 0 = .ok (.aload_n 0, 1) := by decide +kernel
theorem dX1_isFull_1 : decode cX1_isFull 1 = .ok (.getfield 52, 3) := by decide +kernel
theorem dX1_isFull_4 : decode cX1_isFull 4 = .ok (.bipush 60, 2) := by decide +kernel
theorem dX1_isFull_6 : decode cX1_isFull 6 = .ok (.if_icmp .lt 7, 3) := by decide +kernel
theorem dX1_isFull_9 : decode cX1_isFull 9 = .ok (.iconst 1, 1) := by decide +kernel
theorem dX1_isFull_10 : decode cX1_isFull 10 = .ok (.goto 4, 3) := by decide +kernel
theorem dX1_isFull_13 : decode cX1_isFull 13 = .ok (.iconst 0, 1) := by decide +kernel
theorem dX1_isFull_14 : decode cX1_isFull 14 = .ok (.ireturn, 1) := by decide +kernel
theorem dX1_firstHit_0 : decode cX1_firstHit 0 = .ok (.iconst 0, 1) := by decide +kernel
theorem dX1_firstHit_1 : decode cX1_firstHit 1 = .ok (.istore 4, 2) := by decide +kernel
theorem dX1_firstHit_3 : decode cX1_firstHit 3 = .ok (.iload 4, 2) := by decide +kernel
theorem dX1_firstHit_5 : decode cX1_firstHit 5 = .ok (.aload_n 0, 1) := by decide +kernel
theorem dX1_firstHit_6 : decode cX1_firstHit 6 = .ok (.getfield 52, 3) := by decide +kernel
theorem dX1_firstHit_9 : decode cX1_firstHit 9 = .ok (.if_icmp .ge 59, 3) := by decide +kernel
theorem dX1_firstHit_12 : decode cX1_firstHit 12 = .ok (.aload_n 0, 1) := by decide +kernel
theorem dX1_firstHit_13 : decode cX1_firstHit 13 = .ok (.getfield 9, 3) := by decide +kernel
theorem dX1_firstHit_16 : decode cX1_firstHit 16 = .ok (.iload 4, 2) := by decide +kernel
theorem dX1_firstHit_18 : decode cX1_firstHit 18 = .ok (.iaload, 1) := by decide +kernel
theorem dX1_firstHit_19 : decode cX1_firstHit 19 = .ok (.iload_n 3, 1) := by decide +kernel
theorem dX1_firstHit_20 : decode cX1_firstHit 20 = .ok (.if_icmp .ne 42, 3) := by decide +kernel
theorem dX1_firstHit_23 : decode cX1_firstHit 23 = .ok (.aload_n 0, 1) := by decide +kernel
theorem dX1_firstHit_24 : decode cX1_firstHit 24 = .ok (.getfield 27, 3) := by decide +kernel
theorem dX1_firstHit_27 : decode cX1_firstHit 27 = .ok (.iload 4, 2) := by decide +kernel
theorem dX1_firstHit_29 : decode cX1_firstHit 29 = .ok (.iaload, 1) := by decide +kernel
theorem dX1_firstHit_30 : decode cX1_firstHit 30 = .ok (.ifCond .ne 32, 3) := by decide +kernel
theorem dX1_firstHit_33 : decode cX1_firstHit 33 = .ok (.aload_n 0, 1) := by decide +kernel
theorem dX1_firstHit_34 : decode cX1_firstHit 34 = .ok (.aload_n 1, 1) := by decide +kernel
theorem dX1_firstHit_35 : decode cX1_firstHit 35 = .ok (.iload 4, 2) := by decide +kernel
theorem dX1_firstHit_37 : decode cX1_firstHit 37 = .ok (.invokevirtual 56, 3) := by decide +kernel
theorem dX1_firstHit_40 : decode cX1_firstHit 40 = .ok (.ifCond .eq 22, 3) := by decide +kernel
theorem dX1_firstHit_43 : decode cX1_firstHit 43 = .ok (.aload_n 0, 1) := by decide +kernel
theorem dX1_firstHit_44 : decode cX1_firstHit 44 = .ok (.aload_n 1, 1) := by decide +kernel
theorem dX1_firstHit_45 : decode cX1_firstHit 45 = .ok (.getfield 60, 3) := by decide +kernel
theorem dX1_firstHit_48 : decode cX1_firstHit 48 = .ok (.iload_n 3, 1) := by decide +kernel
theorem dX1_firstHit_49 : decode cX1_firstHit 49 = .ok (.iaload, 1) := by decide +kernel
theorem dX1_firstHit_50 : decode cX1_firstHit 50 = .ok (.aload_n 2, 1) := by decide +kernel
theorem dX1_firstHit_51 : decode cX1_firstHit 51 = .ok (.iload 4, 2) := by decide +kernel
theorem dX1_firstHit_53 : decode cX1_firstHit 53 = .ok (.invokevirtual 65, 3) := by decide +kernel
theorem dX1_firstHit_56 : decode cX1_firstHit 56 = .ok (.ifCond .eq 6, 3) := by decide +kernel
theorem dX1_firstHit_59 : decode cX1_firstHit 59 = .ok (.iload 4, 2) := by decide +kernel
theorem dX1_firstHit_61 : decode cX1_firstHit 61 = .ok (.ireturn, 1) := by decide +kernel
theorem dX1_firstHit_62 : decode cX1_firstHit 62 = .ok (.iinc 4 1, 3) := by decide +kernel
theorem dX1_firstHit_65 : decode cX1_firstHit 65 = .ok (.goto (-62), 3) := by decide +kernel
theorem dX1_firstHit_68 : decode cX1_firstHit 68 = .ok (.iconst (-1), 1) := by decide +kernel
theorem dX1_firstHit_69 : decode cX1_firstHit 69 = .ok (.ireturn, 1) := by decide +kernel
theorem dX1_hasInputsOfNow_0 : decode cX1_hasInputsOfNow 0 = .ok (.aload_n 0, 1) := by decide +kernel
theorem dX1_hasInputsOfNow_1 : decode cX1_hasInputsOfNow 1 = .ok (.getfield 9, 3) := by decide +kernel
theorem dX1_hasInputsOfNow_4 : decode cX1_hasInputsOfNow 4 = .ok (.iload_n 2, 1) := by decide +kernel
theorem dX1_hasInputsOfNow_5 : decode cX1_hasInputsOfNow 5 = .ok (.iaload, 1) := by decide +kernel
theorem dX1_hasInputsOfNow_6 : decode cX1_hasInputsOfNow 6 = .ok (.istore_n 3, 1) := by decide +kernel
theorem dX1_hasInputsOfNow_7 : decode cX1_hasInputsOfNow 7 = .ok (.iload_n 3, 1) := by decide +kernel
theorem dX1_hasInputsOfNow_8 : decode cX1_hasInputsOfNow 8 = .ok (.aload_n 1, 1) := by decide +kernel
theorem dX1_hasInputsOfNow_9 : decode cX1_hasInputsOfNow 9 = .ok (.getfield 69, 3) := by decide +kernel
theorem dX1_hasInputsOfNow_12 : decode cX1_hasInputsOfNow 12 = .ok (.invokestatic 70, 3) := by decide +kernel
theorem dX1_hasInputsOfNow_15 : decode cX1_hasInputsOfNow 15 = .ok (.ifCond .ne 5, 3) := by decide +kernel
theorem dX1_hasInputsOfNow_18 : decode cX1_hasInputsOfNow 18 = .ok (.iconst 0, 1) := by decide +kernel
theorem dX1_hasInputsOfNow_19 : decode cX1_hasInputsOfNow 19 = .ok (.ireturn, 1) := by decide +kernel
theorem dX1_hasInputsOfNow_20 : decode cX1_hasInputsOfNow 20 = .ok (.iconst 0, 1) := by decide +kernel
theorem dX1_hasInputsOfNow_21 : decode cX1_hasInputsOfNow 21 = .ok (.istore 4, 2) := by decide +kernel
theorem dX1_hasInputsOfNow_23 : decode cX1_hasInputsOfNow 23 = .ok (.iload 4, 2) := by decide +kernel
theorem dX1_hasInputsOfNow_25 : decode cX1_hasInputsOfNow 25 = .ok (.bipush 8, 2) := by decide +kernel
theorem dX1_hasInputsOfNow_27 : decode cX1_hasInputsOfNow 27 = .ok (.if_icmp .ge 48, 3) := by decide +kernel
theorem dX1_hasInputsOfNow_30 : decode cX1_hasInputsOfNow 30 = .ok (.aload_n 1, 1) := by decide +kernel
theorem dX1_hasInputsOfNow_31 : decode cX1_hasInputsOfNow 31 = .ok (.getfield 74, 3) := by decide +kernel
theorem dX1_hasInputsOfNow_34 : decode cX1_hasInputsOfNow 34 = .ok (.iload_n 3, 1) := by decide +kernel
theorem dX1_hasInputsOfNow_35 : decode cX1_hasInputsOfNow 35 = .ok (.iaload, 1) := by decide +kernel
theorem dX1_hasInputsOfNow_36 : decode cX1_hasInputsOfNow 36 = .ok (.i2l, 1) := by decide +kernel
theorem dX1_hasInputsOfNow_37 : decode cX1_hasInputsOfNow 37 = .ok (.iload 4, 2) := by decide +kernel
theorem dX1_hasInputsOfNow_39 : decode cX1_hasInputsOfNow 39 = .ok (.invokestatic 77, 3) := by decide +kernel
theorem dX1_hasInputsOfNow_42 : decode cX1_hasInputsOfNow 42 = .ok (.ifCond .eq 27, 3) := by decide +kernel
theorem dX1_hasInputsOfNow_45 : decode cX1_hasInputsOfNow 45 = .ok (.aload_n 0, 1) := by decide +kernel
theorem dX1_hasInputsOfNow_46 : decode cX1_hasInputsOfNow 46 = .ok (.getfield 36, 3) := by decide +kernel
theorem dX1_hasInputsOfNow_49 : decode cX1_hasInputsOfNow 49 = .ok (.iload_n 2, 1) := by decide +kernel
theorem dX1_hasInputsOfNow_50 : decode cX1_hasInputsOfNow 50 = .ok (.bipush 8, 2) := by decide +kernel
theorem dX1_hasInputsOfNow_52 : decode cX1_hasInputsOfNow 52 = .ok (.imul, 1) := by decide +kernel
theorem dX1_hasInputsOfNow_53 : decode cX1_hasInputsOfNow 53 = .ok (.iload 4, 2) := by decide +kernel
theorem dX1_hasInputsOfNow_55 : decode cX1_hasInputsOfNow 55 = .ok (.iadd, 1) := by decide +kernel
theorem dX1_hasInputsOfNow_56 : decode cX1_hasInputsOfNow 56 = .ok (.iaload, 1) := by decide +kernel
theorem dX1_hasInputsOfNow_57 : decode cX1_hasInputsOfNow 57 = .ok (.aload_n 1, 1) := by decide +kernel
theorem dX1_hasInputsOfNow_58 : decode cX1_hasInputsOfNow 58 = .ok (.getfield 81, 3) := by decide +kernel
theorem dX1_hasInputsOfNow_61 : decode cX1_hasInputsOfNow 61 = .ok (.iload 4, 2) := by decide +kernel
theorem dX1_hasInputsOfNow_63 : decode cX1_hasInputsOfNow 63 = .ok (.iaload, 1) := by decide +kernel
theorem dX1_hasInputsOfNow_64 : decode cX1_hasInputsOfNow 64 = .ok (.if_icmp .eq 5, 3) := by decide +kernel
theorem dX1_hasInputsOfNow_67 : decode cX1_hasInputsOfNow 67 = .ok (.iconst 0, 1) := by decide +kernel
theorem dX1_hasInputsOfNow_68 : decode cX1_hasInputsOfNow 68 = .ok (.ireturn, 1) := by decide +kernel
theorem dX1_hasInputsOfNow_69 : decode cX1_hasInputsOfNow 69 = .ok (.iinc 4 1, 3) := by decide +kernel
theorem dX1_hasInputsOfNow_72 : decode cX1_hasInputsOfNow 72 = .ok (.goto (-49), 3) := by decide +kernel
theorem dX1_hasInputsOfNow_75 : decode cX1_hasInputsOfNow 75 = .ok (.aload_n 0, 1) := by decide +kernel
theorem dX1_hasInputsOfNow_76 : decode cX1_hasInputsOfNow 76 = .ok (.aload_n 1, 1) := by decide +kernel
theorem dX1_hasInputsOfNow_77 : decode cX1_hasInputsOfNow 77 = .ok (.iload_n 2, 1) := by decide +kernel
theorem dX1_hasInputsOfNow_78 : decode cX1_hasInputsOfNow 78 = .ok (.invokevirtual 82, 3) := by decide +kernel
theorem dX1_hasInputsOfNow_81 : decode cX1_hasInputsOfNow 81 = .ok (.aload_n 1, 1) := by decide +kernel
theorem dX1_hasInputsOfNow_82 : decode cX1_hasInputsOfNow 82 = .ok (.getfield 86, 3) := by decide +kernel
theorem dX1_hasInputsOfNow_85 : decode cX1_hasInputsOfNow 85 = .ok (.iload_n 3, 1) := by decide +kernel
theorem dX1_hasInputsOfNow_86 : decode cX1_hasInputsOfNow 86 = .ok (.iaload, 1) := by decide +kernel
theorem dX1_hasInputsOfNow_87 : decode cX1_hasInputsOfNow 87 = .ok (.iand, 1) := by decide +kernel
theorem dX1_hasInputsOfNow_88 : decode cX1_hasInputsOfNow 88 = .ok (.aload_n 1, 1) := by decide +kernel
theorem dX1_hasInputsOfNow_89 : decode cX1_hasInputsOfNow 89 = .ok (.getfield 89, 3) := by decide +kernel
theorem dX1_hasInputsOfNow_92 : decode cX1_hasInputsOfNow 92 = .ok (.iload_n 3, 1) := by decide +kernel
theorem dX1_hasInputsOfNow_93 : decode cX1_hasInputsOfNow 93 = .ok (.iaload, 1) := by decide +kernel
theorem dX1_hasInputsOfNow_94 : decode cX1_hasInputsOfNow 94 = .ok (.iconst (-1), 1) := by decide +kernel
theorem dX1_hasInputsOfNow_95 : decode cX1_hasInputsOfNow 95 = .ok (.ixor, 1) := by decide +kernel
theorem dX1_hasInputsOfNow_96 : decode cX1_hasInputsOfNow 96 = .ok (.iand, 1) := by decide +kernel
theorem dX1_hasInputsOfNow_97 : decode cX1_hasInputsOfNow 97 = .ok (.ifCond .ne 7, 3) := by decide +kernel
theorem dX1_hasInputsOfNow_100 : decode cX1_hasInputsOfNow 100 = .ok (.iconst 1, 1) := by decide +kernel
theorem dX1_hasInputsOfNow_101 : decode cX1_hasInputsOfNow 101 = .ok (.goto 4, 3) := by decide +kernel
theorem dX1_hasInputsOfNow_104 : decode cX1_hasInputsOfNow 104 = .ok (.iconst 0, 1) := by decide +kernel
theorem dX1_hasInputsOfNow_105 : decode cX1_hasInputsOfNow 105 = .ok (.ireturn, 1) := by decide +kernel
theorem dX1_changedSettings_0 : decode cX1_changedSettings 0 = .ok (.iconst 0, 1) := by decide +kernel
theorem dX1_changedSettings_1 : decode cX1_changedSettings 1 = .ok (.istore_n 3, 1) := by decide +kernel
theorem dX1_changedSettings_2 : decode cX1_changedSettings 2 = .ok (.iconst 0, 1) := by decide +kernel
theorem dX1_changedSettings_3 : decode cX1_changedSettings 3 = .ok (.istore 4, 2) := by decide +kernel
theorem dX1_changedSettings_5 : decode cX1_changedSettings 5 = .ok (.iload 4, 2) := by decide +kernel
theorem dX1_changedSettings_7 : decode cX1_changedSettings 7 = .ok (.bipush 6, 2) := by decide +kernel
theorem dX1_changedSettings_9 : decode cX1_changedSettings 9 = .ok (.if_icmp .ge 38, 3) := by decide +kernel
theorem dX1_changedSettings_12 : decode cX1_changedSettings 12 = .ok (.aload_n 0, 1) := by decide +kernel
theorem dX1_changedSettings_13 : decode cX1_changedSettings 13 = .ok (.getfield 39, 3) := by decide +kernel
theorem dX1_changedSettings_16 : decode cX1_changedSettings 16 = .ok (.iload_n 2, 1) := by decide +kernel
theorem dX1_changedSettings_17 : decode cX1_changedSettings 17 = .ok (.bipush 6, 2) := by decide +kernel
theorem dX1_changedSettings_19 : decode cX1_changedSettings 19 = .ok (.imul, 1) := by decide +kernel
theorem dX1_changedSettings_20 : decode cX1_changedSettings 20 = .ok (.iload 4, 2) := by decide +kernel
theorem dX1_changedSettings_22 : decode cX1_changedSettings 22 = .ok (.iadd, 1) := by decide +kernel
theorem dX1_changedSettings_23 : decode cX1_changedSettings 23 = .ok (.iaload, 1) := by decide +kernel
theorem dX1_changedSettings_24 : decode cX1_changedSettings 24 = .ok (.aload_n 1, 1) := by decide +kernel
theorem dX1_changedSettings_25 : decode cX1_changedSettings 25 = .ok (.getfield 92, 3) := by decide +kernel
theorem dX1_changedSettings_28 : decode cX1_changedSettings 28 = .ok (.iload 4, 2) := by decide +kernel
theorem dX1_changedSettings_30 : decode cX1_changedSettings 30 = .ok (.iaload, 1) := by decide +kernel
theorem dX1_changedSettings_31 : decode cX1_changedSettings 31 = .ok (.if_icmp .eq 10, 3) := by decide +kernel
theorem dX1_changedSettings_34 : decode cX1_changedSettings 34 = .ok (.iload_n 3, 1) := by decide +kernel
theorem dX1_changedSettings_35 : decode cX1_changedSettings 35 = .ok (.iconst 1, 1) := by decide +kernel
theorem dX1_changedSettings_36 : decode cX1_changedSettings 36 = .ok (.iload 4, 2) := by decide +kernel
theorem dX1_changedSettings_38 : decode cX1_changedSettings 38 = .ok (.ishl, 1) := by decide +kernel
theorem dX1_changedSettings_39 : decode cX1_changedSettings 39 = .ok (.ior, 1) := by decide +kernel
theorem dX1_changedSettings_40 : decode cX1_changedSettings 40 = .ok (.istore_n 3, 1) := by decide +kernel
theorem dX1_changedSettings_41 : decode cX1_changedSettings 41 = .ok (.iinc 4 1, 3) := by decide +kernel
theorem dX1_changedSettings_44 : decode cX1_changedSettings 44 = .ok (.goto (-39), 3) := by decide +kernel
theorem dX1_changedSettings_47 : decode cX1_changedSettings 47 = .ok (.iload_n 3, 1) := by decide +kernel
theorem dX1_changedSettings_48 : decode cX1_changedSettings 48 = .ok (.ireturn, 1) := by decide +kernel
theorem dX1_hasPrints_0 : decode cX1_hasPrints 0 = .ok (.iconst 0, 1) := by decide +kernel
theorem dX1_hasPrints_1 : decode cX1_hasPrints 1 = .ok (.istore 4, 2) := by decide +kernel
theorem dX1_hasPrints_3 : decode cX1_hasPrints 3 = .ok (.iload 4, 2) := by decide +kernel
theorem dX1_hasPrints_5 : decode cX1_hasPrints 5 = .ok (.bipush 14, 2) := by decide +kernel
theorem dX1_hasPrints_7 : decode cX1_hasPrints 7 = .ok (.if_icmp .ge 43, 3) := by decide +kernel
theorem dX1_hasPrints_10 : decode cX1_hasPrints 10 = .ok (.iload_n 1, 1) := by decide +kernel
theorem dX1_hasPrints_11 : decode cX1_hasPrints 11 = .ok (.i2l, 1) := by decide +kernel
theorem dX1_hasPrints_12 : decode cX1_hasPrints 12 = .ok (.iload 4, 2) := by decide +kernel
theorem dX1_hasPrints_14 : decode cX1_hasPrints 14 = .ok (.invokestatic 77, 3) := by decide +kernel
theorem dX1_hasPrints_17 : decode cX1_hasPrints 17 = .ok (.ifCond .eq 27, 3) := by decide +kernel
theorem dX1_hasPrints_20 : decode cX1_hasPrints 20 = .ok (.aload_n 0, 1) := by decide +kernel
theorem dX1_hasPrints_21 : decode cX1_hasPrints 21 = .ok (.getfield 42, 3) := by decide +kernel
theorem dX1_hasPrints_24 : decode cX1_hasPrints 24 = .ok (.iload_n 3, 1) := by decide +kernel
theorem dX1_hasPrints_25 : decode cX1_hasPrints 25 = .ok (.bipush 14, 2) := by decide +kernel
theorem dX1_hasPrints_27 : decode cX1_hasPrints 27 = .ok (.imul, 1) := by decide +kernel
theorem dX1_hasPrints_28 : decode cX1_hasPrints 28 = .ok (.iload 4, 2) := by decide +kernel
theorem dX1_hasPrints_30 : decode cX1_hasPrints 30 = .ok (.iadd, 1) := by decide +kernel
theorem dX1_hasPrints_31 : decode cX1_hasPrints 31 = .ok (.iaload, 1) := by decide +kernel
theorem dX1_hasPrints_32 : decode cX1_hasPrints 32 = .ok (.aload_n 2, 1) := by decide +kernel
theorem dX1_hasPrints_33 : decode cX1_hasPrints 33 = .ok (.getfield 93, 3) := by decide +kernel
theorem dX1_hasPrints_36 : decode cX1_hasPrints 36 = .ok (.iload 4, 2) := by decide +kernel
theorem dX1_hasPrints_38 : decode cX1_hasPrints 38 = .ok (.iaload, 1) := by decide +kernel
theorem dX1_hasPrints_39 : decode cX1_hasPrints 39 = .ok (.if_icmp .eq 5, 3) := by decide +kernel
theorem dX1_hasPrints_42 : decode cX1_hasPrints 42 = .ok (.iconst 0, 1) := by decide +kernel
theorem dX1_hasPrints_43 : decode cX1_hasPrints 43 = .ok (.ireturn, 1) := by decide +kernel
theorem dX1_hasPrints_44 : decode cX1_hasPrints 44 = .ok (.iinc 4 1, 3) := by decide +kernel
theorem dX1_hasPrints_47 : decode cX1_hasPrints 47 = .ok (.goto (-44), 3) := by decide +kernel
theorem dX1_hasPrints_50 : decode cX1_hasPrints 50 = .ok (.iconst 1, 1) := by decide +kernel
theorem dX1_hasPrints_51 : decode cX1_hasPrints 51 = .ok (.ireturn, 1) := by decide +kernel
theorem dX1_add_0 : decode cX1_add 0 = .ok (.aload_n 0, 1) := by decide +kernel
theorem dX1_add_1 : decode cX1_add 1 = .ok (.getfield 52, 3) := by decide +kernel
theorem dX1_add_4 : decode cX1_add 4 = .ok (.istore 4, 2) := by decide +kernel
theorem dX1_add_6 : decode cX1_add 6 = .ok (.aload_n 0, 1) := by decide +kernel
theorem dX1_add_7 : decode cX1_add 7 = .ok (.getfield 9, 3) := by decide +kernel
theorem dX1_add_10 : decode cX1_add 10 = .ok (.iload 4, 2) := by decide +kernel
theorem dX1_add_12 : decode cX1_add 12 = .ok (.iload_n 3, 1) := by decide +kernel
theorem dX1_add_13 : decode cX1_add 13 = .ok (.iastore, 1) := by decide +kernel
theorem dX1_add_14 : decode cX1_add 14 = .ok (.aload_n 0, 1) := by decide +kernel
theorem dX1_add_15 : decode cX1_add 15 = .ok (.getfield 30, 3) := by decide +kernel
theorem dX1_add_18 : decode cX1_add 18 = .ok (.iload 4, 2) := by decide +kernel
theorem dX1_add_20 : decode cX1_add 20 = .ok (.aload_n 1, 1) := by decide +kernel
theorem dX1_add_21 : decode cX1_add 21 = .ok (.getfield 96, 3) := by decide +kernel
theorem dX1_add_24 : decode cX1_add 24 = .ok (.iload_n 3, 1) := by decide +kernel
theorem dX1_add_25 : decode cX1_add 25 = .ok (.iaload, 1) := by decide +kernel
theorem dX1_add_26 : decode cX1_add 26 = .ok (.iastore, 1) := by decide +kernel
theorem dX1_add_27 : decode cX1_add 27 = .ok (.aload_n 0, 1) := by decide +kernel
theorem dX1_add_28 : decode cX1_add 28 = .ok (.getfield 33, 3) := by decide +kernel
theorem dX1_add_31 : decode cX1_add 31 = .ok (.iload 4, 2) := by decide +kernel
theorem dX1_add_33 : decode cX1_add 33 = .ok (.aload_n 1, 1) := by decide +kernel
theorem dX1_add_34 : decode cX1_add 34 = .ok (.getfield 97, 3) := by decide +kernel
theorem dX1_add_37 : decode cX1_add 37 = .ok (.iload_n 3, 1) := by decide +kernel
theorem dX1_add_38 : decode cX1_add 38 = .ok (.iaload, 1) := by decide +kernel
theorem dX1_add_39 : decode cX1_add 39 = .ok (.iastore, 1) := by decide +kernel
theorem dX1_add_40 : decode cX1_add 40 = .ok (.aload_n 0, 1) := by decide +kernel
theorem dX1_add_41 : decode cX1_add 41 = .ok (.getfield 24, 3) := by decide +kernel
theorem dX1_add_44 : decode cX1_add 44 = .ok (.iload 4, 2) := by decide +kernel
theorem dX1_add_46 : decode cX1_add 46 = .ok (.iconst 0, 1) := by decide +kernel
theorem dX1_add_47 : decode cX1_add 47 = .ok (.iastore, 1) := by decide +kernel
theorem dX1_add_48 : decode cX1_add 48 = .ok (.aload_n 0, 1) := by decide +kernel
theorem dX1_add_49 : decode cX1_add 49 = .ok (.getfield 48, 3) := by decide +kernel
theorem dX1_add_52 : decode cX1_add 52 = .ok (.iload 4, 2) := by decide +kernel
theorem dX1_add_54 : decode cX1_add 54 = .ok (.lconst 0, 1) := by decide +kernel
theorem dX1_add_55 : decode cX1_add 55 = .ok (.lastore, 1) := by decide +kernel
theorem dX1_add_56 : decode cX1_add 56 = .ok (.aload_n 1, 1) := by decide +kernel
theorem dX1_add_57 : decode cX1_add 57 = .ok (.getfield 81, 3) := by decide +kernel
theorem dX1_add_60 : decode cX1_add 60 = .ok (.iconst 0, 1) := by decide +kernel
theorem dX1_add_61 : decode cX1_add 61 = .ok (.aload_n 0, 1) := by decide +kernel
theorem dX1_add_62 : decode cX1_add 62 = .ok (.getfield 36, 3) := by decide +kernel
theorem dX1_add_65 : decode cX1_add 65 = .ok (.iload 4, 2) := by decide +kernel
theorem dX1_add_67 : decode cX1_add 67 = .ok (.bipush 8, 2) := by decide +kernel
theorem dX1_add_69 : decode cX1_add 69 = .ok (.imul, 1) := by decide +kernel
theorem dX1_add_70 : decode cX1_add 70 = .ok (.bipush 8, 2) := by decide +kernel
theorem dX1_add_72 : decode cX1_add 72 = .ok (.invokestatic 98, 3) := by decide +kernel
theorem dX1_add_75 : decode cX1_add 75 = .ok (.aload_n 1, 1) := by decide +kernel
theorem dX1_add_76 : decode cX1_add 76 = .ok (.getfield 92, 3) := by decide +kernel
theorem dX1_add_79 : decode cX1_add 79 = .ok (.iconst 0, 1) := by decide +kernel
theorem dX1_add_80 : decode cX1_add 80 = .ok (.aload_n 0, 1) := by decide +kernel
theorem dX1_add_81 : decode cX1_add 81 = .ok (.getfield 39, 3) := by decide +kernel
theorem dX1_add_84 : decode cX1_add 84 = .ok (.iload 4, 2) := by decide +kernel
theorem dX1_add_86 : decode cX1_add 86 = .ok (.bipush 6, 2) := by decide +kernel
theorem dX1_add_88 : decode cX1_add 88 = .ok (.imul, 1) := by decide +kernel
theorem dX1_add_89 : decode cX1_add 89 = .ok (.bipush 6, 2) := by decide +kernel
theorem dX1_add_91 : decode cX1_add 91 = .ok (.invokestatic 98, 3) := by decide +kernel
theorem dX1_add_94 : decode cX1_add 94 = .ok (.iconst 0, 1) := by decide +kernel
theorem dX1_add_95 : decode cX1_add 95 = .ok (.istore 5, 2) := by decide +kernel
theorem dX1_add_97 : decode cX1_add 97 = .ok (.iload 5, 2) := by decide +kernel
theorem dX1_add_99 : decode cX1_add 99 = .ok (.bipush 14, 2) := by decide +kernel
theorem dX1_add_101 : decode cX1_add 101 = .ok (.if_icmp .ge 109, 3) := by decide +kernel
theorem dX1_add_104 : decode cX1_add 104 = .ok (.aload_n 1, 1) := by decide +kernel
theorem dX1_add_105 : decode cX1_add 105 = .ok (.getfield 60, 3) := by decide +kernel
theorem dX1_add_108 : decode cX1_add 108 = .ok (.iload_n 3, 1) := by decide +kernel
theorem dX1_add_109 : decode cX1_add 109 = .ok (.iaload, 1) := by decide +kernel
theorem dX1_add_110 : decode cX1_add 110 = .ok (.i2l, 1) := by decide +kernel
theorem dX1_add_111 : decode cX1_add 111 = .ok (.iload 5, 2) := by decide +kernel
theorem dX1_add_113 : decode cX1_add 113 = .ok (.invokestatic 77, 3) := by decide +kernel
theorem dX1_add_116 : decode cX1_add 116 = .ok (.istore 6, 2) := by decide +kernel
theorem dX1_add_118 : decode cX1_add 118 = .ok (.aload_n 0, 1) := by decide +kernel
theorem dX1_add_119 : decode cX1_add 119 = .ok (.getfield 42, 3) := by decide +kernel
theorem dX1_add_122 : decode cX1_add 122 = .ok (.iload 4, 2) := by decide +kernel
theorem dX1_add_124 : decode cX1_add 124 = .ok (.bipush 14, 2) := by decide +kernel
theorem dX1_add_126 : decode cX1_add 126 = .ok (.imul, 1) := by decide +kernel
theorem dX1_add_127 : decode cX1_add 127 = .ok (.iload 5, 2) := by decide +kernel
theorem dX1_add_129 : decode cX1_add 129 = .ok (.iadd, 1) := by decide +kernel
theorem dX1_add_130 : decode cX1_add 130 = .ok (.iload 6, 2) := by decide +kernel
theorem dX1_add_132 : decode cX1_add 132 = .ok (.ifCond .eq 13, 3) := by decide +kernel
theorem dX1_add_135 : decode cX1_add 135 = .ok (.aload_n 2, 1) := by decide +kernel
theorem dX1_add_136 : decode cX1_add 136 = .ok (.getfield 93, 3) := by decide +kernel
theorem dX1_add_139 : decode cX1_add 139 = .ok (.iload 5, 2) := by decide +kernel
theorem dX1_add_141 : decode cX1_add 141 = .ok (.iaload, 1) := by decide +kernel
theorem dX1_add_142 : decode cX1_add 142 = .ok (.goto 4, 3) := by decide +kernel
theorem dX1_add_145 : decode cX1_add 145 = .ok (.iconst (-1), 1) := by decide +kernel
theorem dX1_add_146 : decode cX1_add 146 = .ok (.iastore, 1) := by decide +kernel
theorem dX1_add_147 : decode cX1_add 147 = .ok (.aload_n 0, 1) := by decide +kernel
theorem dX1_add_148 : decode cX1_add 148 = .ok (.getfield 45, 3) := by decide +kernel
theorem dX1_add_151 : decode cX1_add 151 = .ok (.iload 4, 2) := by decide +kernel
theorem dX1_add_153 : decode cX1_add 153 = .ok (.bipush 14, 2) := by decide +kernel
theorem dX1_add_155 : decode cX1_add 155 = .ok (.imul, 1) := by decide +kernel
theorem dX1_add_156 : decode cX1_add 156 = .ok (.iload 5, 2) := by decide +kernel
theorem dX1_add_158 : decode cX1_add 158 = .ok (.iadd, 1) := by decide +kernel
theorem dX1_add_159 : decode cX1_add 159 = .ok (.iload 6, 2) := by decide +kernel
theorem dX1_add_161 : decode cX1_add 161 = .ok (.ifCond .eq 13, 3) := by decide +kernel
theorem dX1_add_164 : decode cX1_add 164 = .ok (.aload_n 2, 1) := by decide +kernel
theorem dX1_add_165 : decode cX1_add 165 = .ok (.getfield 104, 3) := by decide +kernel
theorem dX1_add_168 : decode cX1_add 168 = .ok (.iload 5, 2) := by decide +kernel
theorem dX1_add_170 : decode cX1_add 170 = .ok (.iaload, 1) := by decide +kernel
theorem dX1_add_171 : decode cX1_add 171 = .ok (.goto 4, 3) := by decide +kernel
theorem dX1_add_174 : decode cX1_add 174 = .ok (.iconst (-1), 1) := by decide +kernel
theorem dX1_add_175 : decode cX1_add 175 = .ok (.iastore, 1) := by decide +kernel
theorem dX1_add_176 : decode cX1_add 176 = .ok (.aload_n 0, 1) := by decide +kernel
theorem dX1_add_177 : decode cX1_add 177 = .ok (.getfield 48, 3) := by decide +kernel
theorem dX1_add_180 : decode cX1_add 180 = .ok (.iload 4, 2) := by decide +kernel
theorem dX1_add_182 : decode cX1_add 182 = .ok (.dup2, 1) := by decide +kernel
theorem dX1_add_183 : decode cX1_add 183 = .ok (.laload, 1) := by decide +kernel
theorem dX1_add_184 : decode cX1_add 184 = .ok (.iload 6, 2) := by decide +kernel
theorem dX1_add_186 : decode cX1_add 186 = .ok (.ifCond .eq 15, 3) := by decide +kernel
theorem dX1_add_189 : decode cX1_add 189 = .ok (.lconst 1, 1) := by decide +kernel
theorem dX1_add_190 : decode cX1_add 190 = .ok (.aload_n 2, 1) := by decide +kernel
theorem dX1_add_191 : decode cX1_add 191 = .ok (.getfield 104, 3) := by decide +kernel
theorem dX1_add_194 : decode cX1_add 194 = .ok (.iload 5, 2) := by decide +kernel
theorem dX1_add_196 : decode cX1_add 196 = .ok (.iaload, 1) := by decide +kernel
theorem dX1_add_197 : decode cX1_add 197 = .ok (.lshl, 1) := by decide +kernel
theorem dX1_add_198 : decode cX1_add 198 = .ok (.goto 4, 3) := by decide +kernel
theorem dX1_add_201 : decode cX1_add 201 = .ok (.lconst 0, 1) := by decide +kernel
theorem dX1_add_202 : decode cX1_add 202 = .ok (.lor, 1) := by decide +kernel
theorem dX1_add_203 : decode cX1_add 203 = .ok (.lastore, 1) := by decide +kernel
theorem dX1_add_204 : decode cX1_add 204 = .ok (.iinc 5 1, 3) := by decide +kernel
theorem dX1_add_207 : decode cX1_add 207 = .ok (.goto (-110), 3) := by decide +kernel
theorem dX1_add_210 : decode cX1_add 210 = .ok (.aload_n 0, 1) := by decide +kernel
theorem dX1_add_211 : decode cX1_add 211 = .ok (.dup, 1) := by decide +kernel
theorem dX1_add_212 : decode cX1_add 212 = .ok (.getfield 52, 3) := by decide +kernel
theorem dX1_add_215 : decode cX1_add 215 = .ok (.iconst 1, 1) := by decide +kernel
theorem dX1_add_216 : decode cX1_add 216 = .ok (.iadd, 1) := by decide +kernel
theorem dX1_add_217 : decode cX1_add 217 = .ok (.putfield 52, 3) := by decide +kernel
theorem dX1_add_220 : decode cX1_add 220 = .ok (.iload 4, 2) := by decide +kernel
theorem dX1_add_222 : decode cX1_add 222 = .ok (.ireturn, 1) := by decide +kernel
theorem dX1_offspring_0 : decode cX1_offspring 0 = .ok (.lconst 1, 1) := by decide +kernel
theorem dX1_offspring_1 : decode cX1_offspring 1 = .ok (.iload_n 1, 1) := by decide +kernel
theorem dX1_offspring_2 : decode cX1_offspring 2 = .ok (.lshl, 1) := by decide +kernel
theorem dX1_offspring_3 : decode cX1_offspring 3 = .ok (.lstore_n 2, 1) := by decide +kernel
theorem dX1_offspring_4 : decode cX1_offspring 4 = .ok (.iload_n 1, 1) := by decide +kernel
theorem dX1_offspring_5 : decode cX1_offspring 5 = .ok (.iconst 1, 1) := by decide +kernel
theorem dX1_offspring_6 : decode cX1_offspring 6 = .ok (.iadd, 1) := by decide +kernel
theorem dX1_offspring_7 : decode cX1_offspring 7 = .ok (.istore 4, 2) := by decide +kernel
theorem dX1_offspring_9 : decode cX1_offspring 9 = .ok (.iload 4, 2) := by decide +kernel
theorem dX1_offspring_11 : decode cX1_offspring 11 = .ok (.aload_n 0, 1) := by decide +kernel
theorem dX1_offspring_12 : decode cX1_offspring 12 = .ok (.getfield 52, 3) := by decide +kernel
theorem dX1_offspring_15 : decode cX1_offspring 15 = .ok (.if_icmp .ge 30, 3) := by decide +kernel
theorem dX1_offspring_18 : decode cX1_offspring 18 = .ok (.aload_n 0, 1) := by decide +kernel
theorem dX1_offspring_19 : decode cX1_offspring 19 = .ok (.getfield 48, 3) := by decide +kernel
theorem dX1_offspring_22 : decode cX1_offspring 22 = .ok (.iload 4, 2) := by decide +kernel
theorem dX1_offspring_24 : decode cX1_offspring 24 = .ok (.laload, 1) := by decide +kernel
theorem dX1_offspring_25 : decode cX1_offspring 25 = .ok (.lload_n 2, 1) := by decide +kernel
theorem dX1_offspring_26 : decode cX1_offspring 26 = .ok (.land, 1) := by decide +kernel
theorem dX1_offspring_27 : decode cX1_offspring 27 = .ok (.lconst 0, 1) := by decide +kernel
theorem dX1_offspring_28 : decode cX1_offspring 28 = .ok (.lcmp, 1) := by decide +kernel
theorem dX1_offspring_29 : decode cX1_offspring 29 = .ok (.ifCond .eq 10, 3) := by decide +kernel
theorem dX1_offspring_32 : decode cX1_offspring 32 = .ok (.lload_n 2, 1) := by decide +kernel
theorem dX1_offspring_33 : decode cX1_offspring 33 = .ok (.lconst 1, 1) := by decide +kernel
theorem dX1_offspring_34 : decode cX1_offspring 34 = .ok (.iload 4, 2) := by decide +kernel
theorem dX1_offspring_36 : decode cX1_offspring 36 = .ok (.lshl, 1) := by decide +kernel
theorem dX1_offspring_37 : decode cX1_offspring 37 = .ok (.lor, 1) := by decide +kernel
theorem dX1_offspring_38 : decode cX1_offspring 38 = .ok (.lstore_n 2, 1) := by decide +kernel
theorem dX1_offspring_39 : decode cX1_offspring 39 = .ok (.iinc 4 1, 3) := by decide +kernel
theorem dX1_offspring_42 : decode cX1_offspring 42 = .ok (.goto (-33), 3) := by decide +kernel
theorem dX1_offspring_45 : decode cX1_offspring 45 = .ok (.lload_n 2, 1) := by decide +kernel
theorem dX1_offspring_46 : decode cX1_offspring 46 = .ok (.lconst 1, 1) := by decide +kernel
theorem dX1_offspring_47 : decode cX1_offspring 47 = .ok (.iload_n 1, 1) := by decide +kernel
theorem dX1_offspring_48 : decode cX1_offspring 48 = .ok (.lshl, 1) := by decide +kernel
theorem dX1_offspring_49 : decode cX1_offspring 49 = .ok (.ldc2_w 107, 3) := by decide +kernel
theorem dX1_offspring_52 : decode cX1_offspring 52 = .ok (.lxor, 1) := by decide +kernel
theorem dX1_offspring_53 : decode cX1_offspring 53 = .ok (.land, 1) := by decide +kernel
theorem dX1_offspring_54 : decode cX1_offspring 54 = .ok (.lreturn, 1) := by decide +kernel
theorem dX1_poison_0 : decode cX1_poison 0 = .ok (.aload_n 0, 1) := by decide +kernel
theorem dX1_poison_1 : decode cX1_poison 1 = .ok (.iload_n 1, 1) := by decide +kernel
theorem dX1_poison_2 : decode cX1_poison 2 = .ok (.invokevirtual 109, 3) := by decide +kernel
theorem dX1_poison_5 : decode cX1_poison 5 = .ok (.lconst 1, 1) := by decide +kernel
theorem dX1_poison_6 : decode cX1_poison 6 = .ok (.iload_n 1, 1) := by decide +kernel
theorem dX1_poison_7 : decode cX1_poison 7 = .ok (.lshl, 1) := by decide +kernel
theorem dX1_poison_8 : decode cX1_poison 8 = .ok (.lor, 1) := by decide +kernel
theorem dX1_poison_9 : decode cX1_poison 9 = .ok (.lstore_n 2, 1) := by decide +kernel
theorem dX1_poison_10 : decode cX1_poison 10 = .ok (.iload_n 1, 1) := by decide +kernel
theorem dX1_poison_11 : decode cX1_poison 11 = .ok (.istore 4, 2) := by decide +kernel
theorem dX1_poison_13 : decode cX1_poison 13 = .ok (.iload 4, 2) := by decide +kernel
theorem dX1_poison_15 : decode cX1_poison 15 = .ok (.aload_n 0, 1) := by decide +kernel
theorem dX1_poison_16 : decode cX1_poison 16 = .ok (.getfield 52, 3) := by decide +kernel
theorem dX1_poison_19 : decode cX1_poison 19 = .ok (.if_icmp .ge 26, 3) := by decide +kernel
theorem dX1_poison_22 : decode cX1_poison 22 = .ok (.lload_n 2, 1) := by decide +kernel
theorem dX1_poison_23 : decode cX1_poison 23 = .ok (.iload 4, 2) := by decide +kernel
theorem dX1_poison_25 : decode cX1_poison 25 = .ok (.invokestatic 77, 3) := by decide +kernel
theorem dX1_poison_28 : decode cX1_poison 28 = .ok (.ifCond .eq 11, 3) := by decide +kernel
theorem dX1_poison_31 : decode cX1_poison 31 = .ok (.aload_n 0, 1) := by decide +kernel
theorem dX1_poison_32 : decode cX1_poison 32 = .ok (.getfield 27, 3) := by decide +kernel
theorem dX1_poison_35 : decode cX1_poison 35 = .ok (.iload 4, 2) := by decide +kernel
theorem dX1_poison_37 : decode cX1_poison 37 = .ok (.iconst 2, 1) := by decide +kernel
theorem dX1_poison_38 : decode cX1_poison 38 = .ok (.iastore, 1) := by decide +kernel
theorem dX1_poison_39 : decode cX1_poison 39 = .ok (.iinc 4 1, 3) := by decide +kernel
theorem dX1_poison_42 : decode cX1_poison 42 = .ok (.goto (-29), 3) := by decide +kernel
theorem dX1_poison_45 : decode cX1_poison 45 = .ok (.return_, 1) := by decide +kernel
theorem dX1_dropAllOf_0 : decode cX1_dropAllOf 0 = .ok (.iconst 0, 1) := by decide +kernel
theorem dX1_dropAllOf_1 : decode cX1_dropAllOf 1 = .ok (.istore_n 2, 1) := by decide +kernel
theorem dX1_dropAllOf_2 : decode cX1_dropAllOf 2 = .ok (.iload_n 2, 1) := by decide +kernel
theorem dX1_dropAllOf_3 : decode cX1_dropAllOf 3 = .ok (.aload_n 0, 1) := by decide +kernel
theorem dX1_dropAllOf_4 : decode cX1_dropAllOf 4 = .ok (.getfield 52, 3) := by decide +kernel
theorem dX1_dropAllOf_7 : decode cX1_dropAllOf 7 = .ok (.if_icmp .ge 35, 3) := by decide +kernel
theorem dX1_dropAllOf_10 : decode cX1_dropAllOf 10 = .ok (.aload_n 0, 1) := by decide +kernel
theorem dX1_dropAllOf_11 : decode cX1_dropAllOf 11 = .ok (.getfield 9, 3) := by decide +kernel
theorem dX1_dropAllOf_14 : decode cX1_dropAllOf 14 = .ok (.iload_n 2, 1) := by decide +kernel
theorem dX1_dropAllOf_15 : decode cX1_dropAllOf 15 = .ok (.iaload, 1) := by decide +kernel
theorem dX1_dropAllOf_16 : decode cX1_dropAllOf 16 = .ok (.iload_n 1, 1) := by decide +kernel
theorem dX1_dropAllOf_17 : decode cX1_dropAllOf 17 = .ok (.if_icmp .ne 19, 3) := by decide +kernel
theorem dX1_dropAllOf_20 : decode cX1_dropAllOf 20 = .ok (.aload_n 0, 1) := by decide +kernel
theorem dX1_dropAllOf_21 : decode cX1_dropAllOf 21 = .ok (.getfield 27, 3) := by decide +kernel
theorem dX1_dropAllOf_24 : decode cX1_dropAllOf 24 = .ok (.iload_n 2, 1) := by decide +kernel
theorem dX1_dropAllOf_25 : decode cX1_dropAllOf 25 = .ok (.iaload, 1) := by decide +kernel
theorem dX1_dropAllOf_26 : decode cX1_dropAllOf 26 = .ok (.ifCond .ne 10, 3) := by decide +kernel
theorem dX1_dropAllOf_29 : decode cX1_dropAllOf 29 = .ok (.aload_n 0, 1) := by decide +kernel
theorem dX1_dropAllOf_30 : decode cX1_dropAllOf 30 = .ok (.getfield 27, 3) := by decide +kernel
theorem dX1_dropAllOf_33 : decode cX1_dropAllOf 33 = .ok (.iload_n 2, 1) := by decide +kernel
theorem dX1_dropAllOf_34 : decode cX1_dropAllOf 34 = .ok (.iconst 1, 1) := by decide +kernel
theorem dX1_dropAllOf_35 : decode cX1_dropAllOf 35 = .ok (.iastore, 1) := by decide +kernel
theorem dX1_dropAllOf_36 : decode cX1_dropAllOf 36 = .ok (.iinc 2 1, 3) := by decide +kernel
theorem dX1_dropAllOf_39 : decode cX1_dropAllOf 39 = .ok (.goto (-37), 3) := by decide +kernel
theorem dX1_dropAllOf_42 : decode cX1_dropAllOf 42 = .ok (.return_, 1) := by decide +kernel
theorem dX1_makeRoom_0 : decode cX1_makeRoom 0 = .ok (.iconst 0, 1) := by decide +kernel
theorem dX1_makeRoom_1 : decode cX1_makeRoom 1 = .ok (.istore_n 3, 1) := by decide +kernel
theorem dX1_makeRoom_2 : decode cX1_makeRoom 2 = .ok (.iload_n 3, 1) := by decide +kernel
theorem dX1_makeRoom_3 : decode cX1_makeRoom 3 = .ok (.bipush 60, 2) := by decide +kernel
theorem dX1_makeRoom_5 : decode cX1_makeRoom 5 = .ok (.if_icmp .ge 41, 3) := by decide +kernel
theorem dX1_makeRoom_8 : decode cX1_makeRoom 8 = .ok (.aload_n 0, 1) := by decide +kernel
theorem dX1_makeRoom_9 : decode cX1_makeRoom 9 = .ok (.iload_n 1, 1) := by decide +kernel
theorem dX1_makeRoom_10 : decode cX1_makeRoom 10 = .ok (.invokevirtual 113, 3) := by decide +kernel
theorem dX1_makeRoom_13 : decode cX1_makeRoom 13 = .ok (.iload_n 2, 1) := by decide +kernel
theorem dX1_makeRoom_14 : decode cX1_makeRoom 14 = .ok (.if_icmp .le 32, 3) := by decide +kernel
theorem dX1_makeRoom_17 : decode cX1_makeRoom 17 = .ok (.aload_n 0, 1) := by decide +kernel
theorem dX1_makeRoom_18 : decode cX1_makeRoom 18 = .ok (.iload_n 1, 1) := by decide +kernel
theorem dX1_makeRoom_19 : decode cX1_makeRoom 19 = .ok (.invokevirtual 117, 3) := by decide +kernel
theorem dX1_makeRoom_22 : decode cX1_makeRoom 22 = .ok (.istore 4, 2) := by decide +kernel
theorem dX1_makeRoom_24 : decode cX1_makeRoom 24 = .ok (.iload 4, 2) := by decide +kernel
theorem dX1_makeRoom_26 : decode cX1_makeRoom 26 = .ok (.iconst (-1), 1) := by decide +kernel
theorem dX1_makeRoom_27 : decode cX1_makeRoom 27 = .ok (.if_icmp .ne 5, 3) := by decide +kernel
theorem dX1_makeRoom_30 : decode cX1_makeRoom 30 = .ok (.iload_n 3, 1) := by decide +kernel
theorem dX1_makeRoom_31 : decode cX1_makeRoom 31 = .ok (.ireturn, 1) := by decide +kernel
theorem dX1_makeRoom_32 : decode cX1_makeRoom 32 = .ok (.aload_n 0, 1) := by decide +kernel
theorem dX1_makeRoom_33 : decode cX1_makeRoom 33 = .ok (.getfield 27, 3) := by decide +kernel
theorem dX1_makeRoom_36 : decode cX1_makeRoom 36 = .ok (.iload 4, 2) := by decide +kernel
theorem dX1_makeRoom_38 : decode cX1_makeRoom 38 = .ok (.iconst 1, 1) := by decide +kernel
theorem dX1_makeRoom_39 : decode cX1_makeRoom 39 = .ok (.iastore, 1) := by decide +kernel
theorem dX1_makeRoom_40 : decode cX1_makeRoom 40 = .ok (.iinc 3 1, 3) := by decide +kernel
theorem dX1_makeRoom_43 : decode cX1_makeRoom 43 = .ok (.goto (-41), 3) := by decide +kernel
theorem dX1_makeRoom_46 : decode cX1_makeRoom 46 = .ok (.iload_n 3, 1) := by decide +kernel
theorem dX1_makeRoom_47 : decode cX1_makeRoom 47 = .ok (.ireturn, 1) := by decide +kernel
theorem dX1_leastWorth_0 : decode cX1_leastWorth 0 = .ok (.iconst (-1), 1) := by decide +kernel
theorem dX1_leastWorth_1 : decode cX1_leastWorth 1 = .ok (.istore_n 2, 1) := by decide +kernel
theorem dX1_leastWorth_2 : decode cX1_leastWorth 2 = .ok (.iconst 0, 1) := by decide +kernel
theorem dX1_leastWorth_3 : decode cX1_leastWorth 3 = .ok (.istore_n 3, 1) := by decide +kernel
theorem dX1_leastWorth_4 : decode cX1_leastWorth 4 = .ok (.iload_n 3, 1) := by decide +kernel
theorem dX1_leastWorth_5 : decode cX1_leastWorth 5 = .ok (.aload_n 0, 1) := by decide +kernel
theorem dX1_leastWorth_6 : decode cX1_leastWorth 6 = .ok (.getfield 52, 3) := by decide +kernel
theorem dX1_leastWorth_9 : decode cX1_leastWorth 9 = .ok (.if_icmp .ge 38, 3) := by decide +kernel
theorem dX1_leastWorth_12 : decode cX1_leastWorth 12 = .ok (.aload_n 0, 1) := by decide +kernel
theorem dX1_leastWorth_13 : decode cX1_leastWorth 13 = .ok (.iload_n 3, 1) := by decide +kernel
theorem dX1_leastWorth_14 : decode cX1_leastWorth 14 = .ok (.iload_n 1, 1) := by decide +kernel
theorem dX1_leastWorth_15 : decode cX1_leastWorth 15 = .ok (.invokevirtual 120, 3) := by decide +kernel
theorem dX1_leastWorth_18 : decode cX1_leastWorth 18 = .ok (.ifCond .eq 23, 3) := by decide +kernel
theorem dX1_leastWorth_21 : decode cX1_leastWorth 21 = .ok (.iload_n 2, 1) := by decide +kernel
theorem dX1_leastWorth_22 : decode cX1_leastWorth 22 = .ok (.iconst (-1), 1) := by decide +kernel
theorem dX1_leastWorth_23 : decode cX1_leastWorth 23 = .ok (.if_icmp .eq 16, 3) := by decide +kernel
theorem dX1_leastWorth_26 : decode cX1_leastWorth 26 = .ok (.aload_n 0, 1) := by decide +kernel
theorem dX1_leastWorth_27 : decode cX1_leastWorth 27 = .ok (.iload_n 3, 1) := by decide +kernel
theorem dX1_leastWorth_28 : decode cX1_leastWorth 28 = .ok (.invokevirtual 123, 3) := by decide +kernel
theorem dX1_leastWorth_31 : decode cX1_leastWorth 31 = .ok (.aload_n 0, 1) := by decide +kernel
theorem dX1_leastWorth_32 : decode cX1_leastWorth 32 = .ok (.iload_n 2, 1) := by decide +kernel
theorem dX1_leastWorth_33 : decode cX1_leastWorth 33 = .ok (.invokevirtual 123, 3) := by decide +kernel
theorem dX1_leastWorth_36 : decode cX1_leastWorth 36 = .ok (.if_icmp .ge 5, 3) := by decide +kernel
theorem dX1_leastWorth_39 : decode cX1_leastWorth 39 = .ok (.iload_n 3, 1) := by decide +kernel
theorem dX1_leastWorth_40 : decode cX1_leastWorth 40 = .ok (.istore_n 2, 1) := by decide +kernel
theorem dX1_leastWorth_41 : decode cX1_leastWorth 41 = .ok (.iinc 3 1, 3) := by decide +kernel
theorem dX1_leastWorth_44 : decode cX1_leastWorth 44 = .ok (.goto (-40), 3) := by decide +kernel
theorem dX1_leastWorth_47 : decode cX1_leastWorth 47 = .ok (.iload_n 2, 1) := by decide +kernel
theorem dX1_leastWorth_48 : decode cX1_leastWorth 48 = .ok (.ireturn, 1) := by decide +kernel
theorem dX1_worth_0 : decode cX1_worth 0 = .ok (.aload_n 0, 1) := by decide +kernel
theorem dX1_worth_1 : decode cX1_worth 1 = .ok (.getfield 33, 3) := by decide +kernel
theorem dX1_worth_4 : decode cX1_worth 4 = .ok (.iload_n 1, 1) := by decide +kernel
theorem dX1_worth_5 : decode cX1_worth 5 = .ok (.iaload, 1) := by decide +kernel
theorem dX1_worth_6 : decode cX1_worth 6 = .ok (.iconst 1, 1) := by decide +kernel
theorem dX1_worth_7 : decode cX1_worth 7 = .ok (.if_icmp .ge 7, 3) := by decide +kernel
theorem dX1_worth_10 : decode cX1_worth 10 = .ok (.iconst 0, 1) := by decide +kernel
theorem dX1_worth_11 : decode cX1_worth 11 = .ok (.goto 28, 3) := by decide +kernel
theorem dX1_worth_14 : decode cX1_worth 14 = .ok (.aload_n 0, 1) := by decide +kernel
theorem dX1_worth_15 : decode cX1_worth 15 = .ok (.getfield 30, 3) := by decide +kernel
theorem dX1_worth_18 : decode cX1_worth 18 = .ok (.iload_n 1, 1) := by decide +kernel
theorem dX1_worth_19 : decode cX1_worth 19 = .ok (.iaload, 1) := by decide +kernel
theorem dX1_worth_20 : decode cX1_worth 20 = .ok (.aload_n 0, 1) := by decide +kernel
theorem dX1_worth_21 : decode cX1_worth 21 = .ok (.getfield 24, 3) := by decide +kernel
theorem dX1_worth_24 : decode cX1_worth 24 = .ok (.iload_n 1, 1) := by decide +kernel
theorem dX1_worth_25 : decode cX1_worth 25 = .ok (.iaload, 1) := by decide +kernel
theorem dX1_worth_26 : decode cX1_worth 26 = .ok (.iconst 1, 1) := by decide +kernel
theorem dX1_worth_27 : decode cX1_worth 27 = .ok (.iadd, 1) := by decide +kernel
theorem dX1_worth_28 : decode cX1_worth 28 = .ok (.imul, 1) := by decide +kernel
theorem dX1_worth_29 : decode cX1_worth 29 = .ok (.bipush 10, 2) := by decide +kernel
theorem dX1_worth_31 : decode cX1_worth 31 = .ok (.imul, 1) := by decide +kernel
theorem dX1_worth_32 : decode cX1_worth 32 = .ok (.aload_n 0, 1) := by decide +kernel
theorem dX1_worth_33 : decode cX1_worth 33 = .ok (.getfield 33, 3) := by decide +kernel
theorem dX1_worth_36 : decode cX1_worth 36 = .ok (.iload_n 1, 1) := by decide +kernel
theorem dX1_worth_37 : decode cX1_worth 37 = .ok (.iaload, 1) := by decide +kernel
theorem dX1_worth_38 : decode cX1_worth 38 = .ok (.idiv, 1) := by decide +kernel
theorem dX1_worth_39 : decode cX1_worth 39 = .ok (.ireturn, 1) := by decide +kernel
theorem dX1_isKeptBy_0 : decode cX1_isKeptBy 0 = .ok (.aload_n 0, 1) := by decide +kernel
theorem dX1_isKeptBy_1 : decode cX1_isKeptBy 1 = .ok (.getfield 18, 3) := by decide +kernel
theorem dX1_isKeptBy_4 : decode cX1_isKeptBy 4 = .ok (.iload_n 1, 1) := by decide +kernel
theorem dX1_isKeptBy_5 : decode cX1_isKeptBy 5 = .ok (.iaload, 1) := by decide +kernel
theorem dX1_isKeptBy_6 : decode cX1_isKeptBy 6 = .ok (.iload_n 2, 1) := by decide +kernel
theorem dX1_isKeptBy_7 : decode cX1_isKeptBy 7 = .ok (.if_icmp .ne 16, 3) := by decide +kernel
theorem dX1_isKeptBy_10 : decode cX1_isKeptBy 10 = .ok (.aload_n 0, 1) := by decide +kernel
theorem dX1_isKeptBy_11 : decode cX1_isKeptBy 11 = .ok (.getfield 27, 3) := by decide +kernel
theorem dX1_isKeptBy_14 : decode cX1_isKeptBy 14 = .ok (.iload_n 1, 1) := by decide +kernel
theorem dX1_isKeptBy_15 : decode cX1_isKeptBy 15 = .ok (.iaload, 1) := by decide +kernel
theorem dX1_isKeptBy_16 : decode cX1_isKeptBy 16 = .ok (.ifCond .ne 7, 3) := by decide +kernel
theorem dX1_isKeptBy_19 : decode cX1_isKeptBy 19 = .ok (.iconst 1, 1) := by decide +kernel
theorem dX1_isKeptBy_20 : decode cX1_isKeptBy 20 = .ok (.goto 4, 3) := by decide +kernel
theorem dX1_isKeptBy_23 : decode cX1_isKeptBy 23 = .ok (.iconst 0, 1) := by decide +kernel
theorem dX1_isKeptBy_24 : decode cX1_isKeptBy 24 = .ok (.ireturn, 1) := by decide +kernel
theorem dX1_usedBy_0 : decode cX1_usedBy 0 = .ok (.iconst 0, 1) := by decide +kernel
theorem dX1_usedBy_1 : decode cX1_usedBy 1 = .ok (.istore_n 2, 1) := by decide +kernel
theorem dX1_usedBy_2 : decode cX1_usedBy 2 = .ok (.iconst 0, 1) := by decide +kernel
theorem dX1_usedBy_3 : decode cX1_usedBy 3 = .ok (.istore_n 3, 1) := by decide +kernel
theorem dX1_usedBy_4 : decode cX1_usedBy 4 = .ok (.iload_n 3, 1) := by decide +kernel
theorem dX1_usedBy_5 : decode cX1_usedBy 5 = .ok (.aload_n 0, 1) := by decide +kernel
theorem dX1_usedBy_6 : decode cX1_usedBy 6 = .ok (.getfield 52, 3) := by decide +kernel
theorem dX1_usedBy_9 : decode cX1_usedBy 9 = .ok (.if_icmp .ge 31, 3) := by decide +kernel
theorem dX1_usedBy_12 : decode cX1_usedBy 12 = .ok (.iload_n 2, 1) := by decide +kernel
theorem dX1_usedBy_13 : decode cX1_usedBy 13 = .ok (.aload_n 0, 1) := by decide +kernel
theorem dX1_usedBy_14 : decode cX1_usedBy 14 = .ok (.iload_n 3, 1) := by decide +kernel
theorem dX1_usedBy_15 : decode cX1_usedBy 15 = .ok (.iload_n 1, 1) := by decide +kernel
theorem dX1_usedBy_16 : decode cX1_usedBy 16 = .ok (.invokevirtual 120, 3) := by decide +kernel
theorem dX1_usedBy_19 : decode cX1_usedBy 19 = .ok (.ifCond .eq 12, 3) := by decide +kernel
theorem dX1_usedBy_22 : decode cX1_usedBy 22 = .ok (.aload_n 0, 1) := by decide +kernel
theorem dX1_usedBy_23 : decode cX1_usedBy 23 = .ok (.getfield 33, 3) := by decide +kernel
theorem dX1_usedBy_26 : decode cX1_usedBy 26 = .ok (.iload_n 3, 1) := by decide +kernel
theorem dX1_usedBy_27 : decode cX1_usedBy 27 = .ok (.iaload, 1) := by decide +kernel
theorem dX1_usedBy_28 : decode cX1_usedBy 28 = .ok (.goto 4, 3) := by decide +kernel
theorem dX1_usedBy_31 : decode cX1_usedBy 31 = .ok (.iconst 0, 1) := by decide +kernel
theorem dX1_usedBy_32 : decode cX1_usedBy 32 = .ok (.iadd, 1) := by decide +kernel
theorem dX1_usedBy_33 : decode cX1_usedBy 33 = .ok (.istore_n 2, 1) := by decide +kernel
theorem dX1_usedBy_34 : decode cX1_usedBy 34 = .ok (.iinc 3 1, 3) := by decide +kernel
theorem dX1_usedBy_37 : decode cX1_usedBy 37 = .ok (.goto (-33), 3) := by decide +kernel
theorem dX1_usedBy_40 : decode cX1_usedBy 40 = .ok (.iload_n 2, 1) := by decide +kernel
theorem dX1_usedBy_41 : decode cX1_usedBy 41 = .ok (.ireturn, 1) := by decide +kernel
theorem dX1_keptOfTeam_0 : decode cX1_keptOfTeam 0 = .ok (.iconst 0, 1) := by decide +kernel
theorem dX1_keptOfTeam_1 : decode cX1_keptOfTeam 1 = .ok (.istore_n 2, 1) := by decide +kernel
theorem dX1_keptOfTeam_2 : decode cX1_keptOfTeam 2 = .ok (.iconst 0, 1) := by decide +kernel
theorem dX1_keptOfTeam_3 : decode cX1_keptOfTeam 3 = .ok (.istore_n 3, 1) := by decide +kernel
theorem dX1_keptOfTeam_4 : decode cX1_keptOfTeam 4 = .ok (.iload_n 3, 1) := by decide +kernel
theorem dX1_keptOfTeam_5 : decode cX1_keptOfTeam 5 = .ok (.aload_n 0, 1) := by decide +kernel
theorem dX1_keptOfTeam_6 : decode cX1_keptOfTeam 6 = .ok (.getfield 52, 3) := by decide +kernel
theorem dX1_keptOfTeam_9 : decode cX1_keptOfTeam 9 = .ok (.if_icmp .ge 26, 3) := by decide +kernel
theorem dX1_keptOfTeam_12 : decode cX1_keptOfTeam 12 = .ok (.iload_n 2, 1) := by decide +kernel
theorem dX1_keptOfTeam_13 : decode cX1_keptOfTeam 13 = .ok (.aload_n 0, 1) := by decide +kernel
theorem dX1_keptOfTeam_14 : decode cX1_keptOfTeam 14 = .ok (.iload_n 3, 1) := by decide +kernel
theorem dX1_keptOfTeam_15 : decode cX1_keptOfTeam 15 = .ok (.iload_n 1, 1) := by decide +kernel
theorem dX1_keptOfTeam_16 : decode cX1_keptOfTeam 16 = .ok (.invokevirtual 120, 3) := by decide +kernel
theorem dX1_keptOfTeam_19 : decode cX1_keptOfTeam 19 = .ok (.ifCond .eq 7, 3) := by decide +kernel
theorem dX1_keptOfTeam_22 : decode cX1_keptOfTeam 22 = .ok (.iconst 1, 1) := by decide +kernel
theorem dX1_keptOfTeam_23 : decode cX1_keptOfTeam 23 = .ok (.goto 4, 3) := by decide +kernel
theorem dX1_keptOfTeam_26 : decode cX1_keptOfTeam 26 = .ok (.iconst 0, 1) := by decide +kernel
theorem dX1_keptOfTeam_27 : decode cX1_keptOfTeam 27 = .ok (.iadd, 1) := by decide +kernel
theorem dX1_keptOfTeam_28 : decode cX1_keptOfTeam 28 = .ok (.istore_n 2, 1) := by decide +kernel
theorem dX1_keptOfTeam_29 : decode cX1_keptOfTeam 29 = .ok (.iinc 3 1, 3) := by decide +kernel
theorem dX1_keptOfTeam_32 : decode cX1_keptOfTeam 32 = .ok (.goto (-28), 3) := by decide +kernel
theorem dX1_keptOfTeam_35 : decode cX1_keptOfTeam 35 = .ok (.iload_n 2, 1) := by decide +kernel
theorem dX1_keptOfTeam_36 : decode cX1_keptOfTeam 36 = .ok (.ireturn, 1) := by decide +kernel
theorem dX1_keptOfActions_0 : decode cX1_keptOfActions 0 = .ok (.iconst 0, 1) := by decide +kernel
theorem dX1_keptOfActions_1 : decode cX1_keptOfActions 1 = .ok (.istore_n 2, 1) := by decide +kernel
theorem dX1_keptOfActions_2 : decode cX1_keptOfActions 2 = .ok (.iconst 0, 1) := by decide +kernel
theorem dX1_keptOfActions_3 : decode cX1_keptOfActions 3 = .ok (.istore_n 3, 1) := by decide +kernel
theorem dX1_keptOfActions_4 : decode cX1_keptOfActions 4 = .ok (.iload_n 3, 1) := by decide +kernel
theorem dX1_keptOfActions_5 : decode cX1_keptOfActions 5 = .ok (.aload_n 0, 1) := by decide +kernel
theorem dX1_keptOfActions_6 : decode cX1_keptOfActions 6 = .ok (.getfield 52, 3) := by decide +kernel
theorem dX1_keptOfActions_9 : decode cX1_keptOfActions 9 = .ok (.if_icmp .ge 40, 3) := by decide +kernel
theorem dX1_keptOfActions_12 : decode cX1_keptOfActions 12 = .ok (.iload_n 2, 1) := by decide +kernel
theorem dX1_keptOfActions_13 : decode cX1_keptOfActions 13 = .ok (.aload_n 0, 1) := by decide +kernel
theorem dX1_keptOfActions_14 : decode cX1_keptOfActions 14 = .ok (.getfield 27, 3) := by decide +kernel
theorem dX1_keptOfActions_17 : decode cX1_keptOfActions 17 = .ok (.iload_n 3, 1) := by decide +kernel
theorem dX1_keptOfActions_18 : decode cX1_keptOfActions 18 = .ok (.iaload, 1) := by decide +kernel
theorem dX1_keptOfActions_19 : decode cX1_keptOfActions 19 = .ok (.ifCond .ne 21, 3) := by decide +kernel
theorem dX1_keptOfActions_22 : decode cX1_keptOfActions 22 = .ok (.iload_n 1, 1) := by decide +kernel
theorem dX1_keptOfActions_23 : decode cX1_keptOfActions 23 = .ok (.i2l, 1) := by decide +kernel
theorem dX1_keptOfActions_24 : decode cX1_keptOfActions 24 = .ok (.aload_n 0, 1) := by decide +kernel
theorem dX1_keptOfActions_25 : decode cX1_keptOfActions 25 = .ok (.getfield 9, 3) := by decide +kernel
theorem dX1_keptOfActions_28 : decode cX1_keptOfActions 28 = .ok (.iload_n 3, 1) := by decide +kernel
theorem dX1_keptOfActions_29 : decode cX1_keptOfActions 29 = .ok (.iaload, 1) := by decide +kernel
theorem dX1_keptOfActions_30 : decode cX1_keptOfActions 30 = .ok (.invokestatic 77, 3) := by decide +kernel
theorem dX1_keptOfActions_33 : decode cX1_keptOfActions 33 = .ok (.ifCond .eq 7, 3) := by decide +kernel
theorem dX1_keptOfActions_36 : decode cX1_keptOfActions 36 = .ok (.iconst 1, 1) := by decide +kernel
theorem dX1_keptOfActions_37 : decode cX1_keptOfActions 37 = .ok (.goto 4, 3) := by decide +kernel
theorem dX1_keptOfActions_40 : decode cX1_keptOfActions 40 = .ok (.iconst 0, 1) := by decide +kernel
theorem dX1_keptOfActions_41 : decode cX1_keptOfActions 41 = .ok (.iadd, 1) := by decide +kernel
theorem dX1_keptOfActions_42 : decode cX1_keptOfActions 42 = .ok (.istore_n 2, 1) := by decide +kernel
theorem dX1_keptOfActions_43 : decode cX1_keptOfActions 43 = .ok (.iinc 3 1, 3) := by decide +kernel
theorem dX1_keptOfActions_46 : decode cX1_keptOfActions 46 = .ok (.goto (-42), 3) := by decide +kernel
theorem dX1_keptOfActions_49 : decode cX1_keptOfActions 49 = .ok (.iload_n 2, 1) := by decide +kernel
theorem dX1_keptOfActions_50 : decode cX1_keptOfActions 50 = .ok (.ireturn, 1) := by decide +kernel
theorem dX1_poisonedOfWorker_0 : decode cX1_poisonedOfWorker 0 = .ok (.iconst 0, 1) := by decide +kernel
theorem dX1_poisonedOfWorker_1 : decode cX1_poisonedOfWorker 1 = .ok (.istore_n 2, 1) := by decide +kernel
theorem dX1_poisonedOfWorker_2 : decode cX1_poisonedOfWorker 2 = .ok (.iconst 0, 1) := by decide +kernel
theorem dX1_poisonedOfWorker_3 : decode cX1_poisonedOfWorker 3 = .ok (.istore_n 3, 1) := by decide +kernel
theorem dX1_poisonedOfWorker_4 : decode cX1_poisonedOfWorker 4 = .ok (.iload_n 3, 1) := by decide +kernel
theorem dX1_poisonedOfWorker_5 : decode cX1_poisonedOfWorker 5 = .ok (.aload_n 0, 1) := by decide +kernel
theorem dX1_poisonedOfWorker_6 : decode cX1_poisonedOfWorker 6 = .ok (.getfield 52, 3) := by decide +kernel
theorem dX1_poisonedOfWorker_9 : decode cX1_poisonedOfWorker 9 = .ok (.if_icmp .ge 37, 3) := by decide +kernel
theorem dX1_poisonedOfWorker_12 : decode cX1_poisonedOfWorker 12 = .ok (.iload_n 2, 1) := by decide +kernel
theorem dX1_poisonedOfWorker_13 : decode cX1_poisonedOfWorker 13 = .ok (.aload_n 0, 1) := by decide +kernel
theorem dX1_poisonedOfWorker_14 : decode cX1_poisonedOfWorker 14 = .ok (.getfield 27, 3) := by decide +kernel
theorem dX1_poisonedOfWorker_17 : decode cX1_poisonedOfWorker 17 = .ok (.iload_n 3, 1) := by decide +kernel
theorem dX1_poisonedOfWorker_18 : decode cX1_poisonedOfWorker 18 = .ok (.iaload, 1) := by decide +kernel
theorem dX1_poisonedOfWorker_19 : decode cX1_poisonedOfWorker 19 = .ok (.iconst 2, 1) := by decide +kernel
theorem dX1_poisonedOfWorker_20 : decode cX1_poisonedOfWorker 20 = .ok (.if_icmp .ne 17, 3) := by decide +kernel
theorem dX1_poisonedOfWorker_23 : decode cX1_poisonedOfWorker 23 = .ok (.aload_n 0, 1) := by decide +kernel
theorem dX1_poisonedOfWorker_24 : decode cX1_poisonedOfWorker 24 = .ok (.getfield 15, 3) := by decide +kernel
theorem dX1_poisonedOfWorker_27 : decode cX1_poisonedOfWorker 27 = .ok (.iload_n 3, 1) := by decide +kernel
theorem dX1_poisonedOfWorker_28 : decode cX1_poisonedOfWorker 28 = .ok (.iaload, 1) := by decide +kernel
theorem dX1_poisonedOfWorker_29 : decode cX1_poisonedOfWorker 29 = .ok (.iload_n 1, 1) := by decide +kernel
theorem dX1_poisonedOfWorker_30 : decode cX1_poisonedOfWorker 30 = .ok (.if_icmp .ne 7, 3) := by decide +kernel
theorem dX1_poisonedOfWorker_33 : decode cX1_poisonedOfWorker 33 = .ok (.iconst 1, 1) := by decide +kernel
theorem dX1_poisonedOfWorker_34 : decode cX1_poisonedOfWorker 34 = .ok (.goto 4, 3) := by decide +kernel
theorem dX1_poisonedOfWorker_37 : decode cX1_poisonedOfWorker 37 = .ok (.iconst 0, 1) := by decide +kernel
theorem dX1_poisonedOfWorker_38 : decode cX1_poisonedOfWorker 38 = .ok (.iadd, 1) := by decide +kernel
theorem dX1_poisonedOfWorker_39 : decode cX1_poisonedOfWorker 39 = .ok (.istore_n 2, 1) := by decide +kernel
theorem dX1_poisonedOfWorker_40 : decode cX1_poisonedOfWorker 40 = .ok (.iinc 3 1, 3) := by decide +kernel
theorem dX1_poisonedOfWorker_43 : decode cX1_poisonedOfWorker 43 = .ok (.goto (-39), 3) := by decide +kernel
theorem dX1_poisonedOfWorker_46 : decode cX1_poisonedOfWorker 46 = .ok (.iload_n 2, 1) := by decide +kernel
theorem dX1_poisonedOfWorker_47 : decode cX1_poisonedOfWorker 47 = .ok (.ireturn, 1) := by decide +kernel
theorem dX1_inState_0 : decode cX1_inState 0 = .ok (.iconst 0, 1) := by decide +kernel
theorem dX1_inState_1 : decode cX1_inState 1 = .ok (.istore_n 2, 1) := by decide +kernel
theorem dX1_inState_2 : decode cX1_inState 2 = .ok (.iconst 0, 1) := by decide +kernel
theorem dX1_inState_3 : decode cX1_inState 3 = .ok (.istore_n 3, 1) := by decide +kernel
theorem dX1_inState_4 : decode cX1_inState 4 = .ok (.iload_n 3, 1) := by decide +kernel
theorem dX1_inState_5 : decode cX1_inState 5 = .ok (.aload_n 0, 1) := by decide +kernel
theorem dX1_inState_6 : decode cX1_inState 6 = .ok (.getfield 52, 3) := by decide +kernel
theorem dX1_inState_9 : decode cX1_inState 9 = .ok (.if_icmp .ge 27, 3) := by decide +kernel
theorem dX1_inState_12 : decode cX1_inState 12 = .ok (.iload_n 2, 1) := by decide +kernel
theorem dX1_inState_13 : decode cX1_inState 13 = .ok (.aload_n 0, 1) := by decide +kernel
theorem dX1_inState_14 : decode cX1_inState 14 = .ok (.getfield 27, 3) := by decide +kernel
theorem dX1_inState_17 : decode cX1_inState 17 = .ok (.iload_n 3, 1) := by decide +kernel
theorem dX1_inState_18 : decode cX1_inState 18 = .ok (.iaload, 1) := by decide +kernel
theorem dX1_inState_19 : decode cX1_inState 19 = .ok (.iload_n 1, 1) := by decide +kernel
theorem dX1_inState_20 : decode cX1_inState 20 = .ok (.if_icmp .ne 7, 3) := by decide +kernel
theorem dX1_inState_23 : decode cX1_inState 23 = .ok (.iconst 1, 1) := by decide +kernel
theorem dX1_inState_24 : decode cX1_inState 24 = .ok (.goto 4, 3) := by decide +kernel
theorem dX1_inState_27 : decode cX1_inState 27 = .ok (.iconst 0, 1) := by decide +kernel
theorem dX1_inState_28 : decode cX1_inState 28 = .ok (.iadd, 1) := by decide +kernel
theorem dX1_inState_29 : decode cX1_inState 29 = .ok (.istore_n 2, 1) := by decide +kernel
theorem dX1_inState_30 : decode cX1_inState 30 = .ok (.iinc 3 1, 3) := by decide +kernel
theorem dX1_inState_33 : decode cX1_inState 33 = .ok (.goto (-29), 3) := by decide +kernel
theorem dX1_inState_36 : decode cX1_inState 36 = .ok (.iload_n 2, 1) := by decide +kernel
theorem dX1_inState_37 : decode cX1_inState 37 = .ok (.ireturn, 1) := by decide +kernel
theorem dX1_allHits_0 : decode cX1_allHits 0 = .ok (.iconst 0, 1) := by decide +kernel
theorem dX1_allHits_1 : decode cX1_allHits 1 = .ok (.istore_n 1, 1) := by decide +kernel
theorem dX1_allHits_2 : decode cX1_allHits 2 = .ok (.iconst 0, 1) := by decide +kernel
theorem dX1_allHits_3 : decode cX1_allHits 3 = .ok (.istore_n 2, 1) := by decide +kernel
theorem dX1_allHits_4 : decode cX1_allHits 4 = .ok (.iload_n 2, 1) := by decide +kernel
theorem dX1_allHits_5 : decode cX1_allHits 5 = .ok (.aload_n 0, 1) := by decide +kernel
theorem dX1_allHits_6 : decode cX1_allHits 6 = .ok (.getfield 52, 3) := by decide +kernel
theorem dX1_allHits_9 : decode cX1_allHits 9 = .ok (.if_icmp .ge 18, 3) := by decide +kernel
theorem dX1_allHits_12 : decode cX1_allHits 12 = .ok (.iload_n 1, 1) := by decide +kernel
theorem dX1_allHits_13 : decode cX1_allHits 13 = .ok (.aload_n 0, 1) := by decide +kernel
theorem dX1_allHits_14 : decode cX1_allHits 14 = .ok (.getfield 24, 3) := by decide +kernel
theorem dX1_allHits_17 : decode cX1_allHits 17 = .ok (.iload_n 2, 1) := by decide +kernel
theorem dX1_allHits_18 : decode cX1_allHits 18 = .ok (.iaload, 1) := by decide +kernel
theorem dX1_allHits_19 : decode cX1_allHits 19 = .ok (.iadd, 1) := by decide +kernel
theorem dX1_allHits_20 : decode cX1_allHits 20 = .ok (.istore_n 1, 1) := by decide +kernel
theorem dX1_allHits_21 : decode cX1_allHits 21 = .ok (.iinc 2 1, 3) := by decide +kernel
theorem dX1_allHits_24 : decode cX1_allHits 24 = .ok (.goto (-20), 3) := by decide +kernel
theorem dX1_allHits_27 : decode cX1_allHits 27 = .ok (.iload_n 1, 1) := by decide +kernel
theorem dX1_allHits_28 : decode cX1_allHits 28 = .ok (.ireturn, 1) := by decide +kernel
theorem dX2_init_0 : decode cX2_init 0 = .ok (.aload_n 0, 1) := by decide +kernel
theorem dX2_init_1 : decode cX2_init 1 = .ok (.invokespecial 3, 3) := by decide +kernel
theorem dX2_init_4 : decode cX2_init 4 = .ok (.aload_n 0, 1) := by decide +kernel
theorem dX2_init_5 : decode cX2_init 5 = .ok (.iconst 4, 1) := by decide +kernel
theorem dX2_init_6 : decode cX2_init 6 = .ok (.newarray .int, 2) := by decide +kernel
theorem dX2_init_8 : decode cX2_init 8 = .ok (.putfield 9, 3) := by decide +kernel
theorem dX2_init_11 : decode cX2_init 11 = .ok (.aload_n 0, 1) := by decide +kernel
theorem dX2_init_12 : decode cX2_init 12 = .ok (.iconst 4, 1) := by decide +kernel
theorem dX2_init_13 : decode cX2_init 13 = .ok (.newarray .int, 2) := by decide +kernel
theorem dX2_init_15 : decode cX2_init 15 = .ok (.putfield 15, 3) := by decide +kernel
theorem dX2_init_18 : decode cX2_init 18 = .ok (.aload_n 0, 1) := by decide +kernel
theorem dX2_init_19 : decode cX2_init 19 = .ok (.iconst 4, 1) := by decide +kernel
theorem dX2_init_20 : decode cX2_init 20 = .ok (.newarray .int, 2) := by decide +kernel
theorem dX2_init_22 : decode cX2_init 22 = .ok (.putfield 18, 3) := by decide +kernel
theorem dX2_init_25 : decode cX2_init 25 = .ok (.aload_n 0, 1) := by decide +kernel
theorem dX2_init_26 : decode cX2_init 26 = .ok (.iconst 4, 1) := by decide +kernel
theorem dX2_init_27 : decode cX2_init 27 = .ok (.newarray .int, 2) := by decide +kernel
theorem dX2_init_29 : decode cX2_init 29 = .ok (.putfield 21, 3) := by decide +kernel
theorem dX2_init_32 : decode cX2_init 32 = .ok (.aload_n 0, 1) := by decide +kernel
theorem dX2_init_33 : decode cX2_init 33 = .ok (.iconst 4, 1) := by decide +kernel
theorem dX2_init_34 : decode cX2_init 34 = .ok (.newarray .int, 2) := by decide +kernel
theorem dX2_init_36 : decode cX2_init 36 = .ok (.putfield 24, 3) := by decide +kernel
theorem dX2_init_39 : decode cX2_init 39 = .ok (.return_, 1) := by decide +kernel
theorem dX2_choose_0 : decode cX2_choose 0 = .ok (.iconst (-1), 1) := by decide +kernel
theorem dX2_choose_1 : decode cX2_choose 1 = .ok (.istore_n 2, 1) := by decide +kernel
theorem dX2_choose_2 : decode cX2_choose 2 = .ok (.iconst 0, 1) := by decide +kernel
theorem dX2_choose_3 : decode cX2_choose 3 = .ok (.istore_n 3, 1) := by decide +kernel
theorem dX2_choose_4 : decode cX2_choose 4 = .ok (.iload_n 3, 1) := by decide +kernel
theorem dX2_choose_5 : decode cX2_choose 5 = .ok (.aload_n 0, 1) := by decide +kernel
theorem dX2_choose_6 : decode cX2_choose 6 = .ok (.getfield 27, 3) := by decide +kernel
theorem dX2_choose_9 : decode cX2_choose 9 = .ok (.if_icmp .ge 41, 3) := by decide +kernel
theorem dX2_choose_12 : decode cX2_choose 12 = .ok (.iload_n 3, 1) := by decide +kernel
theorem dX2_choose_13 : decode cX2_choose 13 = .ok (.iload_n 1, 1) := by decide +kernel
theorem dX2_choose_14 : decode cX2_choose 14 = .ok (.if_icmp .eq 30, 3) := by decide +kernel
theorem dX2_choose_17 : decode cX2_choose 17 = .ok (.aload_n 0, 1) := by decide +kernel
theorem dX2_choose_18 : decode cX2_choose 18 = .ok (.getfield 15, 3) := by decide +kernel
theorem dX2_choose_21 : decode cX2_choose 21 = .ok (.iload_n 3, 1) := by decide +kernel
theorem dX2_choose_22 : decode cX2_choose 22 = .ok (.iaload, 1) := by decide +kernel
theorem dX2_choose_23 : decode cX2_choose 23 = .ok (.bipush 20, 2) := by decide +kernel
theorem dX2_choose_25 : decode cX2_choose 25 = .ok (.if_icmp .lt 19, 3) := by decide +kernel
theorem dX2_choose_28 : decode cX2_choose 28 = .ok (.iload_n 2, 1) := by decide +kernel
theorem dX2_choose_29 : decode cX2_choose 29 = .ok (.iconst (-1), 1) := by decide +kernel
theorem dX2_choose_30 : decode cX2_choose 30 = .ok (.if_icmp .eq 12, 3) := by decide +kernel
theorem dX2_choose_33 : decode cX2_choose 33 = .ok (.aload_n 0, 1) := by decide +kernel
theorem dX2_choose_34 : decode cX2_choose 34 = .ok (.iload_n 3, 1) := by decide +kernel
theorem dX2_choose_35 : decode cX2_choose 35 = .ok (.iload_n 2, 1) := by decide +kernel
theorem dX2_choose_36 : decode cX2_choose 36 = .ok (.invokevirtual 31, 3) := by decide +kernel
theorem dX2_choose_39 : decode cX2_choose 39 = .ok (.ifCond .eq 5, 3) := by decide +kernel
theorem dX2_choose_42 : decode cX2_choose 42 = .ok (.iload_n 3, 1) := by decide +kernel
theorem dX2_choose_43 : decode cX2_choose 43 = .ok (.istore_n 2, 1) := by decide +kernel
theorem dX2_choose_44 : decode cX2_choose 44 = .ok (.iinc 3 1, 3) := by decide +kernel
theorem dX2_choose_47 : decode cX2_choose 47 = .ok (.goto (-43), 3) := by decide +kernel
theorem dX2_choose_50 : decode cX2_choose 50 = .ok (.iload_n 2, 1) := by decide +kernel
theorem dX2_choose_51 : decode cX2_choose 51 = .ok (.ireturn, 1) := by decide +kernel
theorem dX2_isBetter_0 : decode cX2_isBetter 0 = .ok (.aload_n 0, 1) := by decide +kernel
theorem dX2_isBetter_1 : decode cX2_isBetter 1 = .ok (.getfield 15, 3) := by decide +kernel
theorem dX2_isBetter_4 : decode cX2_isBetter 4 = .ok (.iload_n 1, 1) := by decide +kernel
theorem dX2_isBetter_5 : decode cX2_isBetter 5 = .ok (.iaload, 1) := by decide +kernel
theorem dX2_isBetter_6 : decode cX2_isBetter 6 = .ok (.aload_n 0, 1) := by decide +kernel
theorem dX2_isBetter_7 : decode cX2_isBetter 7 = .ok (.getfield 15, 3) := by decide +kernel
theorem dX2_isBetter_10 : decode cX2_isBetter 10 = .ok (.iload_n 2, 1) := by decide +kernel
theorem dX2_isBetter_11 : decode cX2_isBetter 11 = .ok (.iaload, 1) := by decide +kernel
theorem dX2_isBetter_12 : decode cX2_isBetter 12 = .ok (.if_icmp .gt 33, 3) := by decide +kernel
theorem dX2_isBetter_15 : decode cX2_isBetter 15 = .ok (.aload_n 0, 1) := by decide +kernel
theorem dX2_isBetter_16 : decode cX2_isBetter 16 = .ok (.getfield 15, 3) := by decide +kernel
theorem dX2_isBetter_19 : decode cX2_isBetter 19 = .ok (.iload_n 1, 1) := by decide +kernel
theorem dX2_isBetter_20 : decode cX2_isBetter 20 = .ok (.iaload, 1) := by decide +kernel
theorem dX2_isBetter_21 : decode cX2_isBetter 21 = .ok (.aload_n 0, 1) := by decide +kernel
theorem dX2_isBetter_22 : decode cX2_isBetter 22 = .ok (.getfield 15, 3) := by decide +kernel
theorem dX2_isBetter_25 : decode cX2_isBetter 25 = .ok (.iload_n 2, 1) := by decide +kernel
theorem dX2_isBetter_26 : decode cX2_isBetter 26 = .ok (.iaload, 1) := by decide +kernel
theorem dX2_isBetter_27 : decode cX2_isBetter 27 = .ok (.if_icmp .ne 22, 3) := by decide +kernel
theorem dX2_isBetter_30 : decode cX2_isBetter 30 = .ok (.aload_n 0, 1) := by decide +kernel
theorem dX2_isBetter_31 : decode cX2_isBetter 31 = .ok (.getfield 21, 3) := by decide +kernel
theorem dX2_isBetter_34 : decode cX2_isBetter 34 = .ok (.iload_n 1, 1) := by decide +kernel
theorem dX2_isBetter_35 : decode cX2_isBetter 35 = .ok (.iaload, 1) := by decide +kernel
theorem dX2_isBetter_36 : decode cX2_isBetter 36 = .ok (.aload_n 0, 1) := by decide +kernel
theorem dX2_isBetter_37 : decode cX2_isBetter 37 = .ok (.getfield 21, 3) := by decide +kernel
theorem dX2_isBetter_40 : decode cX2_isBetter 40 = .ok (.iload_n 2, 1) := by decide +kernel
theorem dX2_isBetter_41 : decode cX2_isBetter 41 = .ok (.iaload, 1) := by decide +kernel
theorem dX2_isBetter_42 : decode cX2_isBetter 42 = .ok (.if_icmp .ge 7, 3) := by decide +kernel
theorem dX2_isBetter_45 : decode cX2_isBetter 45 = .ok (.iconst 1, 1) := by decide +kernel
theorem dX2_isBetter_46 : decode cX2_isBetter 46 = .ok (.goto 4, 3) := by decide +kernel
theorem dX2_isBetter_49 : decode cX2_isBetter 49 = .ok (.iconst 0, 1) := by decide +kernel
theorem dX2_isBetter_50 : decode cX2_isBetter 50 = .ok (.ireturn, 1) := by decide +kernel
theorem dX2_runOnce_0 : decode cX2_runOnce 0 = .ok (.aload_n 0, 1) := by decide +kernel
theorem dX2_runOnce_1 : decode cX2_runOnce 1 = .ok (.getfield 18, 3) := by decide +kernel
theorem dX2_runOnce_4 : decode cX2_runOnce 4 = .ok (.iload_n 1, 1) := by decide +kernel
theorem dX2_runOnce_5 : decode cX2_runOnce 5 = .ok (.dup2, 1) := by decide +kernel
theorem dX2_runOnce_6 : decode cX2_runOnce 6 = .ok (.iaload, 1) := by decide +kernel
theorem dX2_runOnce_7 : decode cX2_runOnce 7 = .ok (.iconst 1, 1) := by decide +kernel
theorem dX2_runOnce_8 : decode cX2_runOnce 8 = .ok (.iadd, 1) := by decide +kernel
theorem dX2_runOnce_9 : decode cX2_runOnce 9 = .ok (.iastore, 1) := by decide +kernel
theorem dX2_runOnce_10 : decode cX2_runOnce 10 = .ok (.aload_n 0, 1) := by decide +kernel
theorem dX2_runOnce_11 : decode cX2_runOnce 11 = .ok (.getfield 21, 3) := by decide +kernel
theorem dX2_runOnce_14 : decode cX2_runOnce 14 = .ok (.iload_n 1, 1) := by decide +kernel
theorem dX2_runOnce_15 : decode cX2_runOnce 15 = .ok (.dup2, 1) := by decide +kernel
theorem dX2_runOnce_16 : decode cX2_runOnce 16 = .ok (.iaload, 1) := by decide +kernel
theorem dX2_runOnce_17 : decode cX2_runOnce 17 = .ok (.iload_n 2, 1) := by decide +kernel
theorem dX2_runOnce_18 : decode cX2_runOnce 18 = .ok (.iadd, 1) := by decide +kernel
theorem dX2_runOnce_19 : decode cX2_runOnce 19 = .ok (.iastore, 1) := by decide +kernel
theorem dX2_runOnce_20 : decode cX2_runOnce 20 = .ok (.aload_n 0, 1) := by decide +kernel
theorem dX2_runOnce_21 : decode cX2_runOnce 21 = .ok (.getfield 9, 3) := by decide +kernel
theorem dX2_runOnce_24 : decode cX2_runOnce 24 = .ok (.iload_n 1, 1) := by decide +kernel
theorem dX2_runOnce_25 : decode cX2_runOnce 25 = .ok (.iaload, 1) := by decide +kernel
theorem dX2_runOnce_26 : decode cX2_runOnce 26 = .ok (.ifCond .le 23, 3) := by decide +kernel
theorem dX2_runOnce_29 : decode cX2_runOnce 29 = .ok (.aload_n 0, 1) := by decide +kernel
theorem dX2_runOnce_30 : decode cX2_runOnce 30 = .ok (.getfield 18, 3) := by decide +kernel
theorem dX2_runOnce_33 : decode cX2_runOnce 33 = .ok (.iload_n 1, 1) := by decide +kernel
theorem dX2_runOnce_34 : decode cX2_runOnce 34 = .ok (.iaload, 1) := by decide +kernel
theorem dX2_runOnce_35 : decode cX2_runOnce 35 = .ok (.aload_n 0, 1) := by decide +kernel
theorem dX2_runOnce_36 : decode cX2_runOnce 36 = .ok (.getfield 9, 3) := by decide +kernel
theorem dX2_runOnce_39 : decode cX2_runOnce 39 = .ok (.iload_n 1, 1) := by decide +kernel
theorem dX2_runOnce_40 : decode cX2_runOnce 40 = .ok (.iaload, 1) := by decide +kernel
theorem dX2_runOnce_41 : decode cX2_runOnce 41 = .ok (.irem, 1) := by decide +kernel
theorem dX2_runOnce_42 : decode cX2_runOnce 42 = .ok (.ifCond .ne 7, 3) := by decide +kernel
theorem dX2_runOnce_45 : decode cX2_runOnce 45 = .ok (.iconst 1, 1) := by decide +kernel
theorem dX2_runOnce_46 : decode cX2_runOnce 46 = .ok (.goto 4, 3) := by decide +kernel
theorem dX2_runOnce_49 : decode cX2_runOnce 49 = .ok (.iconst 0, 1) := by decide +kernel
theorem dX2_runOnce_50 : decode cX2_runOnce 50 = .ok (.istore 4, 2) := by decide +kernel
theorem dX2_runOnce_52 : decode cX2_runOnce 52 = .ok (.iload 4, 2) := by decide +kernel
theorem dX2_runOnce_54 : decode cX2_runOnce 54 = .ok (.ifCond .eq 13, 3) := by decide +kernel
theorem dX2_runOnce_57 : decode cX2_runOnce 57 = .ok (.iload_n 3, 1) := by decide +kernel
theorem dX2_runOnce_58 : decode cX2_runOnce 58 = .ok (.iconst 1, 1) := by decide +kernel
theorem dX2_runOnce_59 : decode cX2_runOnce 59 = .ok (.iadd, 1) := by decide +kernel
theorem dX2_runOnce_60 : decode cX2_runOnce 60 = .ok (.sipush 997, 3) := by decide +kernel
theorem dX2_runOnce_63 : decode cX2_runOnce 63 = .ok (.irem, 1) := by decide +kernel
theorem dX2_runOnce_64 : decode cX2_runOnce 64 = .ok (.goto 4, 3) := by decide +kernel
theorem dX2_runOnce_67 : decode cX2_runOnce 67 = .ok (.iload_n 3, 1) := by decide +kernel
theorem dX2_runOnce_68 : decode cX2_runOnce 68 = .ok (.ireturn, 1) := by decide +kernel
theorem dX2_changeTrust_0 : decode cX2_changeTrust 0 = .ok (.iload_n 1, 1) := by decide +kernel
theorem dX2_changeTrust_1 : decode cX2_changeTrust 1 = .ok (.aload_n 0, 1) := by decide +kernel
theorem dX2_changeTrust_2 : decode cX2_changeTrust 2 = .ok (.getfield 27, 3) := by decide +kernel
theorem dX2_changeTrust_5 : decode cX2_changeTrust 5 = .ok (.invokestatic 35, 3) := by decide +kernel
theorem dX2_changeTrust_8 : decode cX2_changeTrust 8 = .ok (.ifCond .eq 26, 3) := by decide +kernel
theorem dX2_changeTrust_11 : decode cX2_changeTrust 11 = .ok (.aload_n 0, 1) := by decide +kernel
theorem dX2_changeTrust_12 : decode cX2_changeTrust 12 = .ok (.getfield 15, 3) := by decide +kernel
theorem dX2_changeTrust_15 : decode cX2_changeTrust 15 = .ok (.iload_n 1, 1) := by decide +kernel
theorem dX2_changeTrust_16 : decode cX2_changeTrust 16 = .ok (.iconst 0, 1) := by decide +kernel
theorem dX2_changeTrust_17 : decode cX2_changeTrust 17 = .ok (.bipush 100, 2) := by decide +kernel
theorem dX2_changeTrust_19 : decode cX2_changeTrust 19 = .ok (.aload_n 0, 1) := by decide +kernel
theorem dX2_changeTrust_20 : decode cX2_changeTrust 20 = .ok (.getfield 15, 3) := by decide +kernel
theorem dX2_changeTrust_23 : decode cX2_changeTrust 23 = .ok (.iload_n 1, 1) := by decide +kernel
theorem dX2_changeTrust_24 : decode cX2_changeTrust 24 = .ok (.iaload, 1) := by decide +kernel
theorem dX2_changeTrust_25 : decode cX2_changeTrust 25 = .ok (.iload_n 2, 1) := by decide +kernel
theorem dX2_changeTrust_26 : decode cX2_changeTrust 26 = .ok (.iadd, 1) := by decide +kernel
theorem dX2_changeTrust_27 : decode cX2_changeTrust 27 = .ok (.invokestatic 38, 3) := by decide +kernel
theorem dX2_changeTrust_30 : decode cX2_changeTrust 30 = .ok (.invokestatic 44, 3) := by decide +kernel
theorem dX2_changeTrust_33 : decode cX2_changeTrust 33 = .ok (.iastore, 1) := by decide +kernel
theorem dX2_changeTrust_34 : decode cX2_changeTrust 34 = .ok (.return_, 1) := by decide +kernel
theorem dX2_allRuns_0 : decode cX2_allRuns 0 = .ok (.iconst 0, 1) := by decide +kernel
theorem dX2_allRuns_1 : decode cX2_allRuns 1 = .ok (.istore_n 1, 1) := by decide +kernel
theorem dX2_allRuns_2 : decode cX2_allRuns 2 = .ok (.iconst 0, 1) := by decide +kernel
theorem dX2_allRuns_3 : decode cX2_allRuns 3 = .ok (.istore_n 2, 1) := by decide +kernel
theorem dX2_allRuns_4 : decode cX2_allRuns 4 = .ok (.iload_n 2, 1) := by decide +kernel
theorem dX2_allRuns_5 : decode cX2_allRuns 5 = .ok (.aload_n 0, 1) := by decide +kernel
theorem dX2_allRuns_6 : decode cX2_allRuns 6 = .ok (.getfield 27, 3) := by decide +kernel
theorem dX2_allRuns_9 : decode cX2_allRuns 9 = .ok (.if_icmp .ge 18, 3) := by decide +kernel
theorem dX2_allRuns_12 : decode cX2_allRuns 12 = .ok (.iload_n 1, 1) := by decide +kernel
theorem dX2_allRuns_13 : decode cX2_allRuns 13 = .ok (.aload_n 0, 1) := by decide +kernel
theorem dX2_allRuns_14 : decode cX2_allRuns 14 = .ok (.getfield 18, 3) := by decide +kernel
theorem dX2_allRuns_17 : decode cX2_allRuns 17 = .ok (.iload_n 2, 1) := by decide +kernel
theorem dX2_allRuns_18 : decode cX2_allRuns 18 = .ok (.iaload, 1) := by decide +kernel
theorem dX2_allRuns_19 : decode cX2_allRuns 19 = .ok (.iadd, 1) := by decide +kernel
theorem dX2_allRuns_20 : decode cX2_allRuns 20 = .ok (.istore_n 1, 1) := by decide +kernel
theorem dX2_allRuns_21 : decode cX2_allRuns 21 = .ok (.iinc 2 1, 3) := by decide +kernel
theorem dX2_allRuns_24 : decode cX2_allRuns 24 = .ok (.goto (-20), 3) := by decide +kernel
theorem dX2_allRuns_27 : decode cX2_allRuns 27 = .ok (.iload_n 1, 1) := by decide +kernel
theorem dX2_allRuns_28 : decode cX2_allRuns 28 = .ok (.ireturn, 1) := by decide +kernel
theorem dX3_init_0 : decode cX3_init 0 = .ok (.aload_n 0, 1) := by decide +kernel
theorem dX3_init_1 : decode cX3_init 1 = .ok (.invokespecial 3, 3) := by decide +kernel
theorem dX3_init_4 : decode cX3_init 4 = .ok (.aload_n 0, 1) := by decide +kernel
theorem dX3_init_5 : decode cX3_init 5 = .ok (.bipush 14, 2) := by decide +kernel
theorem dX3_init_7 : decode cX3_init 7 = .ok (.newarray .int, 2) := by decide +kernel
theorem dX3_init_9 : decode cX3_init 9 = .ok (.putfield 9, 3) := by decide +kernel
theorem dX3_init_12 : decode cX3_init 12 = .ok (.aload_n 0, 1) := by decide +kernel
theorem dX3_init_13 : decode cX3_init 13 = .ok (.bipush 14, 2) := by decide +kernel
theorem dX3_init_15 : decode cX3_init 15 = .ok (.newarray .int, 2) := by decide +kernel
theorem dX3_init_17 : decode cX3_init 17 = .ok (.putfield 15, 3) := by decide +kernel
theorem dX3_init_20 : decode cX3_init 20 = .ok (.return_, 1) := by decide +kernel
theorem dX4_init_0 : decode cX4_init 0 = .ok (.aload_n 0, 1) := by decide +kernel
theorem dX4_init_1 : decode cX4_init 1 = .ok (.invokespecial 3, 3) := by decide +kernel
theorem dX4_init_4 : decode cX4_init 4 = .ok (.aload_n 0, 1) := by decide +kernel
theorem dX4_init_5 : decode cX4_init 5 = .ok (.bipush 8, 2) := by decide +kernel
theorem dX4_init_7 : decode cX4_init 7 = .ok (.newarray .int, 2) := by decide +kernel
theorem dX4_init_9 : decode cX4_init 9 = .ok (.putfield 9, 3) := by decide +kernel
theorem dX4_init_12 : decode cX4_init 12 = .ok (.aload_n 0, 1) := by decide +kernel
theorem dX4_init_13 : decode cX4_init 13 = .ok (.bipush 6, 2) := by decide +kernel
theorem dX4_init_15 : decode cX4_init 15 = .ok (.newarray .int, 2) := by decide +kernel
theorem dX4_init_17 : decode cX4_init 17 = .ok (.putfield 15, 3) := by decide +kernel
theorem dX4_init_20 : decode cX4_init 20 = .ok (.aload_n 0, 1) := by decide +kernel
theorem dX4_init_21 : decode cX4_init 21 = .ok (.bipush 14, 2) := by decide +kernel
theorem dX4_init_23 : decode cX4_init 23 = .ok (.newarray .int, 2) := by decide +kernel
theorem dX4_init_25 : decode cX4_init 25 = .ok (.putfield 18, 3) := by decide +kernel
theorem dX4_init_28 : decode cX4_init 28 = .ok (.aload_n 0, 1) := by decide +kernel
theorem dX4_init_29 : decode cX4_init 29 = .ok (.bipush 14, 2) := by decide +kernel
theorem dX4_init_31 : decode cX4_init 31 = .ok (.newarray .int, 2) := by decide +kernel
theorem dX4_init_33 : decode cX4_init 33 = .ok (.putfield 21, 3) := by decide +kernel
theorem dX4_init_36 : decode cX4_init 36 = .ok (.aload_n 0, 1) := by decide +kernel
theorem dX4_init_37 : decode cX4_init 37 = .ok (.bipush 14, 2) := by decide +kernel
theorem dX4_init_39 : decode cX4_init 39 = .ok (.newarray .int, 2) := by decide +kernel
theorem dX4_init_41 : decode cX4_init 41 = .ok (.putfield 24, 3) := by decide +kernel
theorem dX4_init_44 : decode cX4_init 44 = .ok (.aload_n 0, 1) := by decide +kernel
theorem dX4_init_45 : decode cX4_init 45 = .ok (.bipush 14, 2) := by decide +kernel
theorem dX4_init_47 : decode cX4_init 47 = .ok (.newarray .int, 2) := by decide +kernel
theorem dX4_init_49 : decode cX4_init 49 = .ok (.putfield 27, 3) := by decide +kernel
theorem dX4_init_52 : decode cX4_init 52 = .ok (.aload_n 0, 1) := by decide +kernel
theorem dX4_init_53 : decode cX4_init 53 = .ok (.bipush 14, 2) := by decide +kernel
theorem dX4_init_55 : decode cX4_init 55 = .ok (.newarray .int, 2) := by decide +kernel
theorem dX4_init_57 : decode cX4_init 57 = .ok (.putfield 30, 3) := by decide +kernel
theorem dX4_init_60 : decode cX4_init 60 = .ok (.aload_n 0, 1) := by decide +kernel
theorem dX4_init_61 : decode cX4_init 61 = .ok (.bipush 14, 2) := by decide +kernel
theorem dX4_init_63 : decode cX4_init 63 = .ok (.newarray .int, 2) := by decide +kernel
theorem dX4_init_65 : decode cX4_init 65 = .ok (.putfield 33, 3) := by decide +kernel
theorem dX4_init_68 : decode cX4_init 68 = .ok (.aload_n 0, 1) := by decide +kernel
theorem dX4_init_69 : decode cX4_init 69 = .ok (.bipush 14, 2) := by decide +kernel
theorem dX4_init_71 : decode cX4_init 71 = .ok (.newarray .int, 2) := by decide +kernel
theorem dX4_init_73 : decode cX4_init 73 = .ok (.putfield 36, 3) := by decide +kernel
theorem dX4_init_76 : decode cX4_init 76 = .ok (.return_, 1) := by decide +kernel
theorem dX4_allActions_0 : decode cX4_allActions 0 = .ok (.iconst 1, 1) := by decide +kernel
theorem dX4_allActions_1 : decode cX4_allActions 1 = .ok (.aload_n 0, 1) := by decide +kernel
theorem dX4_allActions_2 : decode cX4_allActions 2 = .ok (.getfield 39, 3) := by decide +kernel
theorem dX4_allActions_5 : decode cX4_allActions 5 = .ok (.ishl, 1) := by decide +kernel
theorem dX4_allActions_6 : decode cX4_allActions 6 = .ok (.iconst 1, 1) := by decide +kernel
theorem dX4_allActions_7 : decode cX4_allActions 7 = .ok (.isub, 1) := by decide +kernel
theorem dX4_allActions_8 : decode cX4_allActions 8 = .ok (.ireturn, 1) := by decide +kernel
theorem dX4_printOf_0 : decode cX4_printOf 0 = .ok (.bipush 31, 2) := by decide +kernel
theorem dX4_printOf_2 : decode cX4_printOf 2 = .ok (.iload_n 1, 1) := by decide +kernel
theorem dX4_printOf_3 : decode cX4_printOf 3 = .ok (.imul, 1) := by decide +kernel
theorem dX4_printOf_4 : decode cX4_printOf 4 = .ok (.bipush 7, 2) := by decide +kernel
theorem dX4_printOf_6 : decode cX4_printOf 6 = .ok (.aload_n 0, 1) := by decide +kernel
theorem dX4_printOf_7 : decode cX4_printOf 7 = .ok (.getfield 18, 3) := by decide +kernel
theorem dX4_printOf_10 : decode cX4_printOf 10 = .ok (.iload_n 1, 1) := by decide +kernel
theorem dX4_printOf_11 : decode cX4_printOf 11 = .ok (.iaload, 1) := by decide +kernel
theorem dX4_printOf_12 : decode cX4_printOf 12 = .ok (.aload_n 0, 1) := by decide +kernel
theorem dX4_printOf_13 : decode cX4_printOf 13 = .ok (.getfield 9, 3) := by decide +kernel
theorem dX4_printOf_16 : decode cX4_printOf 16 = .ok (.iconst 1, 1) := by decide +kernel
theorem dX4_printOf_17 : decode cX4_printOf 17 = .ok (.invokestatic 43, 3) := by decide +kernel
theorem dX4_printOf_20 : decode cX4_printOf 20 = .ok (.imul, 1) := by decide +kernel
theorem dX4_printOf_21 : decode cX4_printOf 21 = .ok (.iadd, 1) := by decide +kernel
theorem dX4_printOf_22 : decode cX4_printOf 22 = .ok (.iconst 5, 1) := by decide +kernel
theorem dX4_printOf_23 : decode cX4_printOf 23 = .ok (.aload_n 0, 1) := by decide +kernel
theorem dX4_printOf_24 : decode cX4_printOf 24 = .ok (.getfield 21, 3) := by decide +kernel
theorem dX4_printOf_27 : decode cX4_printOf 27 = .ok (.iload_n 1, 1) := by decide +kernel
theorem dX4_printOf_28 : decode cX4_printOf 28 = .ok (.iaload, 1) := by decide +kernel
theorem dX4_printOf_29 : decode cX4_printOf 29 = .ok (.aload_n 2, 1) := by decide +kernel
theorem dX4_printOf_30 : decode cX4_printOf 30 = .ok (.iconst 2, 1) := by decide +kernel
theorem dX4_printOf_31 : decode cX4_printOf 31 = .ok (.invokestatic 43, 3) := by decide +kernel
theorem dX4_printOf_34 : decode cX4_printOf 34 = .ok (.imul, 1) := by decide +kernel
theorem dX4_printOf_35 : decode cX4_printOf 35 = .ok (.iadd, 1) := by decide +kernel
theorem dX4_printOf_36 : decode cX4_printOf 36 = .ok (.iconst 3, 1) := by decide +kernel
theorem dX4_printOf_37 : decode cX4_printOf 37 = .ok (.aload_n 0, 1) := by decide +kernel
theorem dX4_printOf_38 : decode cX4_printOf 38 = .ok (.getfield 24, 3) := by decide +kernel
theorem dX4_printOf_41 : decode cX4_printOf 41 = .ok (.iload_n 1, 1) := by decide +kernel
theorem dX4_printOf_42 : decode cX4_printOf 42 = .ok (.iaload, 1) := by decide +kernel
theorem dX4_printOf_43 : decode cX4_printOf 43 = .ok (.aload_n 0, 1) := by decide +kernel
theorem dX4_printOf_44 : decode cX4_printOf 44 = .ok (.getfield 15, 3) := by decide +kernel
theorem dX4_printOf_47 : decode cX4_printOf 47 = .ok (.iconst 1, 1) := by decide +kernel
theorem dX4_printOf_48 : decode cX4_printOf 48 = .ok (.invokestatic 43, 3) := by decide +kernel
theorem dX4_printOf_51 : decode cX4_printOf 51 = .ok (.imul, 1) := by decide +kernel
theorem dX4_printOf_52 : decode cX4_printOf 52 = .ok (.iadd, 1) := by decide +kernel
theorem dX4_printOf_53 : decode cX4_printOf 53 = .ok (.istore_n 3, 1) := by decide +kernel
theorem dX4_printOf_54 : decode cX4_printOf 54 = .ok (.iload_n 3, 1) := by decide +kernel
theorem dX4_printOf_55 : decode cX4_printOf 55 = .ok (.sipush 997, 3) := by decide +kernel
theorem dX4_printOf_58 : decode cX4_printOf 58 = .ok (.irem, 1) := by decide +kernel
theorem dX4_printOf_59 : decode cX4_printOf 59 = .ok (.ireturn, 1) := by decide +kernel
theorem dX4_cleanPrint_0 : decode cX4_cleanPrint 0 = .ok (.iconst 0, 1) := by decide +kernel
theorem dX4_cleanPrint_1 : decode cX4_cleanPrint 1 = .ok (.istore_n 2, 1) := by decide +kernel
theorem dX4_cleanPrint_2 : decode cX4_cleanPrint 2 = .ok (.iload_n 2, 1) := by decide +kernel
theorem dX4_cleanPrint_3 : decode cX4_cleanPrint 3 = .ok (.iload_n 1, 1) := by decide +kernel
theorem dX4_cleanPrint_4 : decode cX4_cleanPrint 4 = .ok (.if_icmp .gt 24, 3) := by decide +kernel
theorem dX4_cleanPrint_7 : decode cX4_cleanPrint 7 = .ok (.aload_n 0, 1) := by decide +kernel
theorem dX4_cleanPrint_8 : decode cX4_cleanPrint 8 = .ok (.getfield 36, 3) := by decide +kernel
theorem dX4_cleanPrint_11 : decode cX4_cleanPrint 11 = .ok (.iload_n 2, 1) := by decide +kernel
theorem dX4_cleanPrint_12 : decode cX4_cleanPrint 12 = .ok (.aload_n 0, 1) := by decide +kernel
theorem dX4_cleanPrint_13 : decode cX4_cleanPrint 13 = .ok (.iload_n 2, 1) := by decide +kernel
theorem dX4_cleanPrint_14 : decode cX4_cleanPrint 14 = .ok (.aload_n 0, 1) := by decide +kernel
theorem dX4_cleanPrint_15 : decode cX4_cleanPrint 15 = .ok (.getfield 36, 3) := by decide +kernel
theorem dX4_cleanPrint_18 : decode cX4_cleanPrint 18 = .ok (.invokevirtual 47, 3) := by decide +kernel
theorem dX4_cleanPrint_21 : decode cX4_cleanPrint 21 = .ok (.iastore, 1) := by decide +kernel
theorem dX4_cleanPrint_22 : decode cX4_cleanPrint 22 = .ok (.iinc 2 1, 3) := by decide +kernel
theorem dX4_cleanPrint_25 : decode cX4_cleanPrint 25 = .ok (.goto (-23), 3) := by decide +kernel
theorem dX4_cleanPrint_28 : decode cX4_cleanPrint 28 = .ok (.aload_n 0, 1) := by decide +kernel
theorem dX4_cleanPrint_29 : decode cX4_cleanPrint 29 = .ok (.getfield 36, 3) := by decide +kernel
theorem dX4_cleanPrint_32 : decode cX4_cleanPrint 32 = .ok (.iload_n 1, 1) := by decide +kernel
theorem dX4_cleanPrint_33 : decode cX4_cleanPrint 33 = .ok (.iaload, 1) := by decide +kernel
theorem dX4_cleanPrint_34 : decode cX4_cleanPrint 34 = .ok (.ireturn, 1) := by decide +kernel
theorem dX4_neededFor_0 : decode cX4_neededFor 0 = .ok (.iconst 1, 1) := by decide +kernel
theorem dX4_neededFor_1 : decode cX4_neededFor 1 = .ok (.iload_n 1, 1) := by decide +kernel
theorem dX4_neededFor_2 : decode cX4_neededFor 2 = .ok (.ishl, 1) := by decide +kernel
theorem dX4_neededFor_3 : decode cX4_neededFor 3 = .ok (.istore_n 2, 1) := by decide +kernel
theorem dX4_neededFor_4 : decode cX4_neededFor 4 = .ok (.iload_n 1, 1) := by decide +kernel
theorem dX4_neededFor_5 : decode cX4_neededFor 5 = .ok (.istore_n 3, 1) := by decide +kernel
theorem dX4_neededFor_6 : decode cX4_neededFor 6 = .ok (.iload_n 3, 1) := by decide +kernel
theorem dX4_neededFor_7 : decode cX4_neededFor 7 = .ok (.ifCond .lt 27, 3) := by decide +kernel
theorem dX4_neededFor_10 : decode cX4_neededFor 10 = .ok (.iload_n 2, 1) := by decide +kernel
theorem dX4_neededFor_11 : decode cX4_neededFor 11 = .ok (.i2l, 1) := by decide +kernel
theorem dX4_neededFor_12 : decode cX4_neededFor 12 = .ok (.iload_n 3, 1) := by decide +kernel
theorem dX4_neededFor_13 : decode cX4_neededFor 13 = .ok (.invokestatic 51, 3) := by decide +kernel
theorem dX4_neededFor_16 : decode cX4_neededFor 16 = .ok (.ifCond .eq 12, 3) := by decide +kernel
theorem dX4_neededFor_19 : decode cX4_neededFor 19 = .ok (.iload_n 2, 1) := by decide +kernel
theorem dX4_neededFor_20 : decode cX4_neededFor 20 = .ok (.aload_n 0, 1) := by decide +kernel
theorem dX4_neededFor_21 : decode cX4_neededFor 21 = .ok (.getfield 21, 3) := by decide +kernel
theorem dX4_neededFor_24 : decode cX4_neededFor 24 = .ok (.iload_n 3, 1) := by decide +kernel
theorem dX4_neededFor_25 : decode cX4_neededFor 25 = .ok (.iaload, 1) := by decide +kernel
theorem dX4_neededFor_26 : decode cX4_neededFor 26 = .ok (.ior, 1) := by decide +kernel
theorem dX4_neededFor_27 : decode cX4_neededFor 27 = .ok (.istore_n 2, 1) := by decide +kernel
theorem dX4_neededFor_28 : decode cX4_neededFor 28 = .ok (.iinc 3 (-1), 3) := by decide +kernel
theorem dX4_neededFor_31 : decode cX4_neededFor 31 = .ok (.goto (-25), 3) := by decide +kernel
theorem dX4_neededFor_34 : decode cX4_neededFor 34 = .ok (.iload_n 2, 1) := by decide +kernel
theorem dX4_neededFor_35 : decode cX4_neededFor 35 = .ok (.ireturn, 1) := by decide +kernel
theorem dX4_actionsTouchedBy_0 : decode cX4_actionsTouchedBy 0 = .ok (.iconst 0, 1) := by decide +kernel
theorem dX4_actionsTouchedBy_1 : decode cX4_actionsTouchedBy 1 = .ok (.istore_n 2, 1) := by decide +kernel
theorem dX4_actionsTouchedBy_2 : decode cX4_actionsTouchedBy 2 = .ok (.iconst 0, 1) := by decide +kernel
theorem dX4_actionsTouchedBy_3 : decode cX4_actionsTouchedBy 3 = .ok (.istore_n 3, 1) := by decide +kernel
theorem dX4_actionsTouchedBy_4 : decode cX4_actionsTouchedBy 4 = .ok (.iload_n 3, 1) := by decide +kernel
theorem dX4_actionsTouchedBy_5 : decode cX4_actionsTouchedBy 5 = .ok (.aload_n 0, 1) := by decide +kernel
theorem dX4_actionsTouchedBy_6 : decode cX4_actionsTouchedBy 6 = .ok (.getfield 39, 3) := by decide +kernel
theorem dX4_actionsTouchedBy_9 : decode cX4_actionsTouchedBy 9 = .ok (.if_icmp .ge 40, 3) := by decide +kernel
theorem dX4_actionsTouchedBy_12 : decode cX4_actionsTouchedBy 12 = .ok (.aload_n 0, 1) := by decide +kernel
theorem dX4_actionsTouchedBy_13 : decode cX4_actionsTouchedBy 13 = .ok (.getfield 18, 3) := by decide +kernel
theorem dX4_actionsTouchedBy_16 : decode cX4_actionsTouchedBy 16 = .ok (.iload_n 3, 1) := by decide +kernel
theorem dX4_actionsTouchedBy_17 : decode cX4_actionsTouchedBy 17 = .ok (.iaload, 1) := by decide +kernel
theorem dX4_actionsTouchedBy_18 : decode cX4_actionsTouchedBy 18 = .ok (.i2l, 1) := by decide +kernel
theorem dX4_actionsTouchedBy_19 : decode cX4_actionsTouchedBy 19 = .ok (.iload_n 1, 1) := by decide +kernel
theorem dX4_actionsTouchedBy_20 : decode cX4_actionsTouchedBy 20 = .ok (.invokestatic 51, 3) := by decide +kernel
theorem dX4_actionsTouchedBy_23 : decode cX4_actionsTouchedBy 23 = .ok (.ifCond .ne 14, 3) := by decide +kernel
theorem dX4_actionsTouchedBy_26 : decode cX4_actionsTouchedBy 26 = .ok (.aload_n 0, 1) := by decide +kernel
theorem dX4_actionsTouchedBy_27 : decode cX4_actionsTouchedBy 27 = .ok (.getfield 21, 3) := by decide +kernel
theorem dX4_actionsTouchedBy_30 : decode cX4_actionsTouchedBy 30 = .ok (.iload_n 3, 1) := by decide +kernel
theorem dX4_actionsTouchedBy_31 : decode cX4_actionsTouchedBy 31 = .ok (.iaload, 1) := by decide +kernel
theorem dX4_actionsTouchedBy_32 : decode cX4_actionsTouchedBy 32 = .ok (.iload_n 2, 1) := by decide +kernel
theorem dX4_actionsTouchedBy_33 : decode cX4_actionsTouchedBy 33 = .ok (.iand, 1) := by decide +kernel
theorem dX4_actionsTouchedBy_34 : decode cX4_actionsTouchedBy 34 = .ok (.ifCond .eq 9, 3) := by decide +kernel
theorem dX4_actionsTouchedBy_37 : decode cX4_actionsTouchedBy 37 = .ok (.iload_n 2, 1) := by decide +kernel
theorem dX4_actionsTouchedBy_38 : decode cX4_actionsTouchedBy 38 = .ok (.iconst 1, 1) := by decide +kernel
theorem dX4_actionsTouchedBy_39 : decode cX4_actionsTouchedBy 39 = .ok (.iload_n 3, 1) := by decide +kernel
theorem dX4_actionsTouchedBy_40 : decode cX4_actionsTouchedBy 40 = .ok (.ishl, 1) := by decide +kernel
theorem dX4_actionsTouchedBy_41 : decode cX4_actionsTouchedBy 41 = .ok (.ior, 1) := by decide +kernel
theorem dX4_actionsTouchedBy_42 : decode cX4_actionsTouchedBy 42 = .ok (.istore_n 2, 1) := by decide +kernel
theorem dX4_actionsTouchedBy_43 : decode cX4_actionsTouchedBy 43 = .ok (.iinc 3 1, 3) := by decide +kernel
theorem dX4_actionsTouchedBy_46 : decode cX4_actionsTouchedBy 46 = .ok (.goto (-42), 3) := by decide +kernel
theorem dX4_actionsTouchedBy_49 : decode cX4_actionsTouchedBy 49 = .ok (.iload_n 2, 1) := by decide +kernel
theorem dX4_actionsTouchedBy_50 : decode cX4_actionsTouchedBy 50 = .ok (.ireturn, 1) := by decide +kernel
theorem dX5_init_0 : decode cX5_init 0 = .ok (.aload_n 0, 1) := by decide +kernel
theorem dX5_init_1 : decode cX5_init 1 = .ok (.invokespecial 3, 3) := by decide +kernel
theorem dX5_init_4 : decode cX5_init 4 = .ok (.aload_n 0, 1) := by decide +kernel
theorem dX5_init_5 : decode cX5_init 5 = .ok (.bipush 14, 2) := by decide +kernel
theorem dX5_init_7 : decode cX5_init 7 = .ok (.newarray .int, 2) := by decide +kernel
theorem dX5_init_9 : decode cX5_init 9 = .ok (.putfield 9, 3) := by decide +kernel
theorem dX5_init_12 : decode cX5_init 12 = .ok (.aload_n 0, 1) := by decide +kernel
theorem dX5_init_13 : decode cX5_init 13 = .ok (.iconst 4, 1) := by decide +kernel
theorem dX5_init_14 : decode cX5_init 14 = .ok (.newarray .int, 2) := by decide +kernel
theorem dX5_init_16 : decode cX5_init 16 = .ok (.putfield 15, 3) := by decide +kernel
theorem dX5_init_19 : decode cX5_init 19 = .ok (.aload_n 0, 1) := by decide +kernel
theorem dX5_init_20 : decode cX5_init 20 = .ok (.iconst 4, 1) := by decide +kernel
theorem dX5_init_21 : decode cX5_init 21 = .ok (.newarray .int, 2) := by decide +kernel
theorem dX5_init_23 : decode cX5_init 23 = .ok (.putfield 18, 3) := by decide +kernel
theorem dX5_init_26 : decode cX5_init 26 = .ok (.aload_n 0, 1) := by decide +kernel
theorem dX5_init_27 : decode cX5_init 27 = .ok (.iconst 4, 1) := by decide +kernel
theorem dX5_init_28 : decode cX5_init 28 = .ok (.newarray .int, 2) := by decide +kernel
theorem dX5_init_30 : decode cX5_init 30 = .ok (.putfield 21, 3) := by decide +kernel
theorem dX5_init_33 : decode cX5_init 33 = .ok (.aload_n 0, 1) := by decide +kernel
theorem dX5_init_34 : decode cX5_init 34 = .ok (.iconst 4, 1) := by decide +kernel
theorem dX5_init_35 : decode cX5_init 35 = .ok (.newarray .int, 2) := by decide +kernel
theorem dX5_init_37 : decode cX5_init 37 = .ok (.putfield 24, 3) := by decide +kernel
theorem dX5_init_40 : decode cX5_init 40 = .ok (.aload_n 0, 1) := by decide +kernel
theorem dX5_init_41 : decode cX5_init 41 = .ok (.iconst 4, 1) := by decide +kernel
theorem dX5_init_42 : decode cX5_init 42 = .ok (.newarray .int, 2) := by decide +kernel
theorem dX5_init_44 : decode cX5_init 44 = .ok (.putfield 27, 3) := by decide +kernel
theorem dX5_init_47 : decode cX5_init 47 = .ok (.aload_n 0, 1) := by decide +kernel
theorem dX5_init_48 : decode cX5_init 48 = .ok (.bipush 60, 2) := by decide +kernel
theorem dX5_init_50 : decode cX5_init 50 = .ok (.newarray .int, 2) := by decide +kernel
theorem dX5_init_52 : decode cX5_init 52 = .ok (.putfield 30, 3) := by decide +kernel
theorem dX5_init_55 : decode cX5_init 55 = .ok (.aload_n 0, 1) := by decide +kernel
theorem dX5_init_56 : decode cX5_init 56 = .ok (.bipush 60, 2) := by decide +kernel
theorem dX5_init_58 : decode cX5_init 58 = .ok (.newarray .int, 2) := by decide +kernel
theorem dX5_init_60 : decode cX5_init 60 = .ok (.putfield 33, 3) := by decide +kernel
theorem dX5_init_63 : decode cX5_init 63 = .ok (.return_, 1) := by decide +kernel
theorem dX5_take_0 : decode cX5_take 0 = .ok (.aload_n 1, 1) := by decide +kernel
theorem dX5_take_1 : decode cX5_take 1 = .ok (.getfield 36, 3) := by decide +kernel
theorem dX5_take_4 : decode cX5_take 4 = .ok (.iconst 0, 1) := by decide +kernel
theorem dX5_take_5 : decode cX5_take 5 = .ok (.aload_n 0, 1) := by decide +kernel
theorem dX5_take_6 : decode cX5_take 6 = .ok (.getfield 9, 3) := by decide +kernel
theorem dX5_take_9 : decode cX5_take 9 = .ok (.iconst 0, 1) := by decide +kernel
theorem dX5_take_10 : decode cX5_take 10 = .ok (.bipush 14, 2) := by decide +kernel
theorem dX5_take_12 : decode cX5_take 12 = .ok (.invokestatic 39, 3) := by decide +kernel
theorem dX5_take_15 : decode cX5_take 15 = .ok (.aload_n 2, 1) := by decide +kernel
theorem dX5_take_16 : decode cX5_take 16 = .ok (.getfield 45, 3) := by decide +kernel
theorem dX5_take_19 : decode cX5_take 19 = .ok (.iconst 0, 1) := by decide +kernel
theorem dX5_take_20 : decode cX5_take 20 = .ok (.aload_n 0, 1) := by decide +kernel
theorem dX5_take_21 : decode cX5_take 21 = .ok (.getfield 15, 3) := by decide +kernel
theorem dX5_take_24 : decode cX5_take 24 = .ok (.iconst 0, 1) := by decide +kernel
theorem dX5_take_25 : decode cX5_take 25 = .ok (.iconst 4, 1) := by decide +kernel
theorem dX5_take_26 : decode cX5_take 26 = .ok (.invokestatic 39, 3) := by decide +kernel
theorem dX5_take_29 : decode cX5_take 29 = .ok (.aload_n 2, 1) := by decide +kernel
theorem dX5_take_30 : decode cX5_take 30 = .ok (.getfield 48, 3) := by decide +kernel
theorem dX5_take_33 : decode cX5_take 33 = .ok (.iconst 0, 1) := by decide +kernel
theorem dX5_take_34 : decode cX5_take 34 = .ok (.aload_n 0, 1) := by decide +kernel
theorem dX5_take_35 : decode cX5_take 35 = .ok (.getfield 18, 3) := by decide +kernel
theorem dX5_take_38 : decode cX5_take 38 = .ok (.iconst 0, 1) := by decide +kernel
theorem dX5_take_39 : decode cX5_take 39 = .ok (.iconst 4, 1) := by decide +kernel
theorem dX5_take_40 : decode cX5_take 40 = .ok (.invokestatic 39, 3) := by decide +kernel
theorem dX5_take_43 : decode cX5_take 43 = .ok (.aload_n 2, 1) := by decide +kernel
theorem dX5_take_44 : decode cX5_take 44 = .ok (.getfield 49, 3) := by decide +kernel
theorem dX5_take_47 : decode cX5_take 47 = .ok (.iconst 0, 1) := by decide +kernel
theorem dX5_take_48 : decode cX5_take 48 = .ok (.aload_n 0, 1) := by decide +kernel
theorem dX5_take_49 : decode cX5_take 49 = .ok (.getfield 21, 3) := by decide +kernel
theorem dX5_take_52 : decode cX5_take 52 = .ok (.iconst 0, 1) := by decide +kernel
theorem dX5_take_53 : decode cX5_take 53 = .ok (.iconst 4, 1) := by decide +kernel
theorem dX5_take_54 : decode cX5_take 54 = .ok (.invokestatic 39, 3) := by decide +kernel
theorem dX5_take_57 : decode cX5_take 57 = .ok (.aload_n 2, 1) := by decide +kernel
theorem dX5_take_58 : decode cX5_take 58 = .ok (.getfield 50, 3) := by decide +kernel
theorem dX5_take_61 : decode cX5_take 61 = .ok (.iconst 0, 1) := by decide +kernel
theorem dX5_take_62 : decode cX5_take 62 = .ok (.aload_n 0, 1) := by decide +kernel
theorem dX5_take_63 : decode cX5_take 63 = .ok (.getfield 24, 3) := by decide +kernel
theorem dX5_take_66 : decode cX5_take 66 = .ok (.iconst 0, 1) := by decide +kernel
theorem dX5_take_67 : decode cX5_take 67 = .ok (.iconst 4, 1) := by decide +kernel
theorem dX5_take_68 : decode cX5_take 68 = .ok (.invokestatic 39, 3) := by decide +kernel
theorem dX5_take_71 : decode cX5_take 71 = .ok (.aload_n 3, 1) := by decide +kernel
theorem dX5_take_72 : decode cX5_take 72 = .ok (.getfield 51, 3) := by decide +kernel
theorem dX5_take_75 : decode cX5_take 75 = .ok (.iconst 0, 1) := by decide +kernel
theorem dX5_take_76 : decode cX5_take 76 = .ok (.aload_n 0, 1) := by decide +kernel
theorem dX5_take_77 : decode cX5_take 77 = .ok (.getfield 27, 3) := by decide +kernel
theorem dX5_take_80 : decode cX5_take 80 = .ok (.iconst 0, 1) := by decide +kernel
theorem dX5_take_81 : decode cX5_take 81 = .ok (.iconst 4, 1) := by decide +kernel
theorem dX5_take_82 : decode cX5_take 82 = .ok (.invokestatic 39, 3) := by decide +kernel
theorem dX5_take_85 : decode cX5_take 85 = .ok (.aload 4, 2) := by decide +kernel
theorem dX5_take_87 : decode cX5_take 87 = .ok (.getfield 54, 3) := by decide +kernel
theorem dX5_take_90 : decode cX5_take 90 = .ok (.iconst 0, 1) := by decide +kernel
theorem dX5_take_91 : decode cX5_take 91 = .ok (.aload_n 0, 1) := by decide +kernel
theorem dX5_take_92 : decode cX5_take 92 = .ok (.getfield 30, 3) := by decide +kernel
theorem dX5_take_95 : decode cX5_take 95 = .ok (.iconst 0, 1) := by decide +kernel
theorem dX5_take_96 : decode cX5_take 96 = .ok (.bipush 60, 2) := by decide +kernel
theorem dX5_take_98 : decode cX5_take 98 = .ok (.invokestatic 39, 3) := by decide +kernel
theorem dX5_take_101 : decode cX5_take 101 = .ok (.aload 4, 2) := by decide +kernel
theorem dX5_take_103 : decode cX5_take 103 = .ok (.getfield 57, 3) := by decide +kernel
theorem dX5_take_106 : decode cX5_take 106 = .ok (.iconst 0, 1) := by decide +kernel
theorem dX5_take_107 : decode cX5_take 107 = .ok (.aload_n 0, 1) := by decide +kernel
theorem dX5_take_108 : decode cX5_take 108 = .ok (.getfield 33, 3) := by decide +kernel
theorem dX5_take_111 : decode cX5_take 111 = .ok (.iconst 0, 1) := by decide +kernel
theorem dX5_take_112 : decode cX5_take 112 = .ok (.bipush 60, 2) := by decide +kernel
theorem dX5_take_114 : decode cX5_take 114 = .ok (.invokestatic 39, 3) := by decide +kernel
theorem dX5_take_117 : decode cX5_take 117 = .ok (.aload_n 0, 1) := by decide +kernel
theorem dX5_take_118 : decode cX5_take 118 = .ok (.aload 4, 2) := by decide +kernel
theorem dX5_take_120 : decode cX5_take 120 = .ok (.getfield 58, 3) := by decide +kernel
theorem dX5_take_123 : decode cX5_take 123 = .ok (.putfield 62, 3) := by decide +kernel
theorem dX5_take_126 : decode cX5_take 126 = .ok (.aload_n 0, 1) := by decide +kernel
theorem dX5_take_127 : decode cX5_take 127 = .ok (.aload 4, 2) := by decide +kernel
theorem dX5_take_129 : decode cX5_take 129 = .ok (.getfield 63, 3) := by decide +kernel
theorem dX5_take_132 : decode cX5_take 132 = .ok (.putfield 66, 3) := by decide +kernel
theorem dX5_take_135 : decode cX5_take 135 = .ok (.return_, 1) := by decide +kernel
theorem dX5_putBack_0 : decode cX5_putBack 0 = .ok (.aload_n 0, 1) := by decide +kernel
theorem dX5_putBack_1 : decode cX5_putBack 1 = .ok (.getfield 9, 3) := by decide +kernel
theorem dX5_putBack_4 : decode cX5_putBack 4 = .ok (.iconst 0, 1) := by decide +kernel
theorem dX5_putBack_5 : decode cX5_putBack 5 = .ok (.aload_n 1, 1) := by decide +kernel
theorem dX5_putBack_6 : decode cX5_putBack 6 = .ok (.getfield 36, 3) := by decide +kernel
theorem dX5_putBack_9 : decode cX5_putBack 9 = .ok (.iconst 0, 1) := by decide +kernel
theorem dX5_putBack_10 : decode cX5_putBack 10 = .ok (.bipush 14, 2) := by decide +kernel
theorem dX5_putBack_12 : decode cX5_putBack 12 = .ok (.invokestatic 39, 3) := by decide +kernel
theorem dX5_putBack_15 : decode cX5_putBack 15 = .ok (.aload_n 0, 1) := by decide +kernel
theorem dX5_putBack_16 : decode cX5_putBack 16 = .ok (.getfield 15, 3) := by decide +kernel
theorem dX5_putBack_19 : decode cX5_putBack 19 = .ok (.iconst 0, 1) := by decide +kernel
theorem dX5_putBack_20 : decode cX5_putBack 20 = .ok (.aload_n 2, 1) := by decide +kernel
theorem dX5_putBack_21 : decode cX5_putBack 21 = .ok (.getfield 45, 3) := by decide +kernel
theorem dX5_putBack_24 : decode cX5_putBack 24 = .ok (.iconst 0, 1) := by decide +kernel
theorem dX5_putBack_25 : decode cX5_putBack 25 = .ok (.iconst 4, 1) := by decide +kernel
theorem dX5_putBack_26 : decode cX5_putBack 26 = .ok (.invokestatic 39, 3) := by decide +kernel
theorem dX5_putBack_29 : decode cX5_putBack 29 = .ok (.aload_n 0, 1) := by decide +kernel
theorem dX5_putBack_30 : decode cX5_putBack 30 = .ok (.getfield 18, 3) := by decide +kernel
theorem dX5_putBack_33 : decode cX5_putBack 33 = .ok (.iconst 0, 1) := by decide +kernel
theorem dX5_putBack_34 : decode cX5_putBack 34 = .ok (.aload_n 2, 1) := by decide +kernel
theorem dX5_putBack_35 : decode cX5_putBack 35 = .ok (.getfield 48, 3) := by decide +kernel
theorem dX5_putBack_38 : decode cX5_putBack 38 = .ok (.iconst 0, 1) := by decide +kernel
theorem dX5_putBack_39 : decode cX5_putBack 39 = .ok (.iconst 4, 1) := by decide +kernel
theorem dX5_putBack_40 : decode cX5_putBack 40 = .ok (.invokestatic 39, 3) := by decide +kernel
theorem dX5_putBack_43 : decode cX5_putBack 43 = .ok (.aload_n 0, 1) := by decide +kernel
theorem dX5_putBack_44 : decode cX5_putBack 44 = .ok (.getfield 21, 3) := by decide +kernel
theorem dX5_putBack_47 : decode cX5_putBack 47 = .ok (.iconst 0, 1) := by decide +kernel
theorem dX5_putBack_48 : decode cX5_putBack 48 = .ok (.aload_n 2, 1) := by decide +kernel
theorem dX5_putBack_49 : decode cX5_putBack 49 = .ok (.getfield 49, 3) := by decide +kernel
theorem dX5_putBack_52 : decode cX5_putBack 52 = .ok (.iconst 0, 1) := by decide +kernel
theorem dX5_putBack_53 : decode cX5_putBack 53 = .ok (.iconst 4, 1) := by decide +kernel
theorem dX5_putBack_54 : decode cX5_putBack 54 = .ok (.invokestatic 39, 3) := by decide +kernel
theorem dX5_putBack_57 : decode cX5_putBack 57 = .ok (.aload_n 0, 1) := by decide +kernel
theorem dX5_putBack_58 : decode cX5_putBack 58 = .ok (.getfield 24, 3) := by decide +kernel
theorem dX5_putBack_61 : decode cX5_putBack 61 = .ok (.iconst 0, 1) := by decide +kernel
theorem dX5_putBack_62 : decode cX5_putBack 62 = .ok (.aload_n 2, 1) := by decide +kernel
theorem dX5_putBack_63 : decode cX5_putBack 63 = .ok (.getfield 50, 3) := by decide +kernel
theorem dX5_putBack_66 : decode cX5_putBack 66 = .ok (.iconst 0, 1) := by decide +kernel
theorem dX5_putBack_67 : decode cX5_putBack 67 = .ok (.iconst 4, 1) := by decide +kernel
theorem dX5_putBack_68 : decode cX5_putBack 68 = .ok (.invokestatic 39, 3) := by decide +kernel
theorem dX5_putBack_71 : decode cX5_putBack 71 = .ok (.aload_n 0, 1) := by decide +kernel
theorem dX5_putBack_72 : decode cX5_putBack 72 = .ok (.getfield 27, 3) := by decide +kernel
theorem dX5_putBack_75 : decode cX5_putBack 75 = .ok (.iconst 0, 1) := by decide +kernel
theorem dX5_putBack_76 : decode cX5_putBack 76 = .ok (.aload_n 3, 1) := by decide +kernel
theorem dX5_putBack_77 : decode cX5_putBack 77 = .ok (.getfield 51, 3) := by decide +kernel
theorem dX5_putBack_80 : decode cX5_putBack 80 = .ok (.iconst 0, 1) := by decide +kernel
theorem dX5_putBack_81 : decode cX5_putBack 81 = .ok (.iconst 4, 1) := by decide +kernel
theorem dX5_putBack_82 : decode cX5_putBack 82 = .ok (.invokestatic 39, 3) := by decide +kernel
theorem dX5_putBack_85 : decode cX5_putBack 85 = .ok (.aload_n 0, 1) := by decide +kernel
theorem dX5_putBack_86 : decode cX5_putBack 86 = .ok (.getfield 30, 3) := by decide +kernel
theorem dX5_putBack_89 : decode cX5_putBack 89 = .ok (.iconst 0, 1) := by decide +kernel
theorem dX5_putBack_90 : decode cX5_putBack 90 = .ok (.aload 4, 2) := by decide +kernel
theorem dX5_putBack_92 : decode cX5_putBack 92 = .ok (.getfield 54, 3) := by decide +kernel
theorem dX5_putBack_95 : decode cX5_putBack 95 = .ok (.iconst 0, 1) := by decide +kernel
theorem dX5_putBack_96 : decode cX5_putBack 96 = .ok (.bipush 60, 2) := by decide +kernel
theorem dX5_putBack_98 : decode cX5_putBack 98 = .ok (.invokestatic 39, 3) := by decide +kernel
theorem dX5_putBack_101 : decode cX5_putBack 101 = .ok (.aload_n 0, 1) := by decide +kernel
theorem dX5_putBack_102 : decode cX5_putBack 102 = .ok (.getfield 33, 3) := by decide +kernel
theorem dX5_putBack_105 : decode cX5_putBack 105 = .ok (.iconst 0, 1) := by decide +kernel
theorem dX5_putBack_106 : decode cX5_putBack 106 = .ok (.aload 4, 2) := by decide +kernel
theorem dX5_putBack_108 : decode cX5_putBack 108 = .ok (.getfield 57, 3) := by decide +kernel
theorem dX5_putBack_111 : decode cX5_putBack 111 = .ok (.iconst 0, 1) := by decide +kernel
theorem dX5_putBack_112 : decode cX5_putBack 112 = .ok (.bipush 60, 2) := by decide +kernel
theorem dX5_putBack_114 : decode cX5_putBack 114 = .ok (.invokestatic 39, 3) := by decide +kernel
theorem dX5_putBack_117 : decode cX5_putBack 117 = .ok (.aload 4, 2) := by decide +kernel
theorem dX5_putBack_119 : decode cX5_putBack 119 = .ok (.aload_n 0, 1) := by decide +kernel
theorem dX5_putBack_120 : decode cX5_putBack 120 = .ok (.getfield 62, 3) := by decide +kernel
theorem dX5_putBack_123 : decode cX5_putBack 123 = .ok (.putfield 58, 3) := by decide +kernel
theorem dX5_putBack_126 : decode cX5_putBack 126 = .ok (.aload 4, 2) := by decide +kernel
theorem dX5_putBack_128 : decode cX5_putBack 128 = .ok (.aload_n 0, 1) := by decide +kernel
theorem dX5_putBack_129 : decode cX5_putBack 129 = .ok (.getfield 66, 3) := by decide +kernel
theorem dX5_putBack_132 : decode cX5_putBack 132 = .ok (.putfield 63, 3) := by decide +kernel
theorem dX5_putBack_135 : decode cX5_putBack 135 = .ok (.return_, 1) := by decide +kernel
theorem dX6_init_0 : decode cX6_init 0 = .ok (.aload_n 0, 1) := by decide +kernel
theorem dX6_init_1 : decode cX6_init 1 = .ok (.invokespecial 3, 3) := by decide +kernel
theorem dX6_init_4 : decode cX6_init 4 = .ok (.aload_n 0, 1) := by decide +kernel
theorem dX6_init_5 : decode cX6_init 5 = .ok (.iconst 4, 1) := by decide +kernel
theorem dX6_init_6 : decode cX6_init 6 = .ok (.newarray .int, 2) := by decide +kernel
theorem dX6_init_8 : decode cX6_init 8 = .ok (.putfield 9, 3) := by decide +kernel
theorem dX6_init_11 : decode cX6_init 11 = .ok (.aload_n 0, 1) := by decide +kernel
theorem dX6_init_12 : decode cX6_init 12 = .ok (.iconst 4, 1) := by decide +kernel
theorem dX6_init_13 : decode cX6_init 13 = .ok (.newarray .int, 2) := by decide +kernel
theorem dX6_init_15 : decode cX6_init 15 = .ok (.putfield 15, 3) := by decide +kernel
theorem dX6_init_18 : decode cX6_init 18 = .ok (.aload_n 0, 1) := by decide +kernel
theorem dX6_init_19 : decode cX6_init 19 = .ok (.iconst 4, 1) := by decide +kernel
theorem dX6_init_20 : decode cX6_init 20 = .ok (.newarray .int, 2) := by decide +kernel
theorem dX6_init_22 : decode cX6_init 22 = .ok (.putfield 18, 3) := by decide +kernel
theorem dX6_init_25 : decode cX6_init 25 = .ok (.return_, 1) := by decide +kernel
theorem dX7_init_0 : decode cX7_init 0 = .ok (.aload_n 0, 1) := by decide +kernel
theorem dX7_init_1 : decode cX7_init 1 = .ok (.invokespecial 1, 3) := by decide +kernel
theorem dX7_init_4 : decode cX7_init 4 = .ok (.aload_n 0, 1) := by decide +kernel
theorem dX7_init_5 : decode cX7_init 5 = .ok (.new 7, 3) := by decide +kernel
theorem dX7_init_8 : decode cX7_init 8 = .ok (.dup, 1) := by decide +kernel
theorem dX7_init_9 : decode cX7_init 9 = .ok (.invokespecial 9, 3) := by decide +kernel
theorem dX7_init_12 : decode cX7_init 12 = .ok (.putfield 10, 3) := by decide +kernel
theorem dX7_init_15 : decode cX7_init 15 = .ok (.aload_n 0, 1) := by decide +kernel
theorem dX7_init_16 : decode cX7_init 16 = .ok (.aload_n 0, 1) := by decide +kernel
theorem dX7_init_17 : decode cX7_init 17 = .ok (.getfield 10, 3) := by decide +kernel
theorem dX7_init_20 : decode cX7_init 20 = .ok (.getfield 16, 3) := by decide +kernel
theorem dX7_init_23 : decode cX7_init 23 = .ok (.putfield 20, 3) := by decide +kernel
theorem dX7_init_26 : decode cX7_init 26 = .ok (.aload_n 0, 1) := by decide +kernel
theorem dX7_init_27 : decode cX7_init 27 = .ok (.aload_n 0, 1) := by decide +kernel
theorem dX7_init_28 : decode cX7_init 28 = .ok (.getfield 10, 3) := by decide +kernel
theorem dX7_init_31 : decode cX7_init 31 = .ok (.getfield 21, 3) := by decide +kernel
theorem dX7_init_34 : decode cX7_init 34 = .ok (.putfield 25, 3) := by decide +kernel
theorem dX7_init_37 : decode cX7_init 37 = .ok (.aload_n 0, 1) := by decide +kernel
theorem dX7_init_38 : decode cX7_init 38 = .ok (.aload_n 0, 1) := by decide +kernel
theorem dX7_init_39 : decode cX7_init 39 = .ok (.getfield 10, 3) := by decide +kernel
theorem dX7_init_42 : decode cX7_init 42 = .ok (.getfield 26, 3) := by decide +kernel
theorem dX7_init_45 : decode cX7_init 45 = .ok (.putfield 30, 3) := by decide +kernel
theorem dX7_init_48 : decode cX7_init 48 = .ok (.aload_n 0, 1) := by decide +kernel
theorem dX7_init_49 : decode cX7_init 49 = .ok (.aload_n 0, 1) := by decide +kernel
theorem dX7_init_50 : decode cX7_init 50 = .ok (.getfield 10, 3) := by decide +kernel
theorem dX7_init_53 : decode cX7_init 53 = .ok (.getfield 31, 3) := by decide +kernel
theorem dX7_init_56 : decode cX7_init 56 = .ok (.putfield 35, 3) := by decide +kernel
theorem dX7_init_59 : decode cX7_init 59 = .ok (.return_, 1) := by decide +kernel
theorem dX7_action_0 : decode cX7_action 0 = .ok (.iload_n 1, 1) := by decide +kernel
theorem dX7_action_1 : decode cX7_action 1 = .ok (.iconst 0, 1) := by decide +kernel
theorem dX7_action_2 : decode cX7_action 2 = .ok (.sipush 255, 3) := by decide +kernel
theorem dX7_action_5 : decode cX7_action 5 = .ok (.invokestatic 36, 3) := by decide +kernel
theorem dX7_action_8 : decode cX7_action 8 = .ok (.invokestatic 40, 3) := by decide +kernel
theorem dX7_action_11 : decode cX7_action 11 = .ok (.iload_n 2, 1) := by decide +kernel
theorem dX7_action_12 : decode cX7_action 12 = .ok (.aload_n 0, 1) := by decide +kernel
theorem dX7_action_13 : decode cX7_action 13 = .ok (.getfield 20, 3) := by decide +kernel
theorem dX7_action_16 : decode cX7_action 16 = .ok (.invokevirtual 44, 3) := by decide +kernel
theorem dX7_action_19 : decode cX7_action 19 = .ok (.invokestatic 50, 3) := by decide +kernel
theorem dX7_action_22 : decode cX7_action 22 = .ok (.invokestatic 40, 3) := by decide +kernel
theorem dX7_action_25 : decode cX7_action 25 = .ok (.iload_n 3, 1) := by decide +kernel
theorem dX7_action_26 : decode cX7_action 26 = .ok (.iconst 0, 1) := by decide +kernel
theorem dX7_action_27 : decode cX7_action 27 = .ok (.bipush 63, 2) := by decide +kernel
theorem dX7_action_29 : decode cX7_action 29 = .ok (.invokestatic 36, 3) := by decide +kernel
theorem dX7_action_32 : decode cX7_action 32 = .ok (.invokestatic 40, 3) := by decide +kernel
theorem dX7_action_35 : decode cX7_action 35 = .ok (.iload 4, 2) := by decide +kernel
theorem dX7_action_37 : decode cX7_action 37 = .ok (.iload_n 3, 1) := by decide +kernel
theorem dX7_action_38 : decode cX7_action 38 = .ok (.invokestatic 50, 3) := by decide +kernel
theorem dX7_action_41 : decode cX7_action 41 = .ok (.invokestatic 40, 3) := by decide +kernel
theorem dX7_action_44 : decode cX7_action 44 = .ok (.iload 5, 2) := by decide +kernel
theorem dX7_action_46 : decode cX7_action 46 = .ok (.iconst 1, 1) := by decide +kernel
theorem dX7_action_47 : decode cX7_action 47 = .ok (.bipush 50, 2) := by decide +kernel
theorem dX7_action_49 : decode cX7_action 49 = .ok (.invokestatic 36, 3) := by decide +kernel
theorem dX7_action_52 : decode cX7_action 52 = .ok (.invokestatic 40, 3) := by decide +kernel
theorem dX7_action_55 : decode cX7_action 55 = .ok (.iload 6, 2) := by decide +kernel
theorem dX7_action_57 : decode cX7_action 57 = .ok (.iconst 1, 1) := by decide +kernel
theorem dX7_action_58 : decode cX7_action 58 = .ok (.bipush 20, 2) := by decide +kernel
theorem dX7_action_60 : decode cX7_action 60 = .ok (.invokestatic 36, 3) := by decide +kernel
theorem dX7_action_63 : decode cX7_action 63 = .ok (.invokestatic 40, 3) := by decide +kernel
theorem dX7_action_66 : decode cX7_action 66 = .ok (.aload_n 0, 1) := by decide +kernel
theorem dX7_action_67 : decode cX7_action 67 = .ok (.getfield 20, 3) := by decide +kernel
theorem dX7_action_70 : decode cX7_action 70 = .ok (.getfield 54, 3) := by decide +kernel
theorem dX7_action_73 : decode cX7_action 73 = .ok (.bipush 14, 2) := by decide +kernel
theorem dX7_action_75 : decode cX7_action 75 = .ok (.if_icmp .ge 7, 3) := by decide +kernel
theorem dX7_action_78 : decode cX7_action 78 = .ok (.iconst 1, 1) := by decide +kernel
theorem dX7_action_79 : decode cX7_action 79 = .ok (.goto 4, 3) := by decide +kernel
theorem dX7_action_82 : decode cX7_action 82 = .ok (.iconst 0, 1) := by decide +kernel
theorem dX7_action_83 : decode cX7_action 83 = .ok (.invokestatic 58, 3) := by decide +kernel
theorem dX7_action_86 : decode cX7_action 86 = .ok (.aload_n 0, 1) := by decide +kernel
theorem dX7_action_87 : decode cX7_action 87 = .ok (.getfield 20, 3) := by decide +kernel
theorem dX7_action_90 : decode cX7_action 90 = .ok (.getfield 54, 3) := by decide +kernel
theorem dX7_action_93 : decode cX7_action 93 = .ok (.istore 7, 2) := by decide +kernel
theorem dX7_action_95 : decode cX7_action 95 = .ok (.aload_n 0, 1) := by decide +kernel
theorem dX7_action_96 : decode cX7_action 96 = .ok (.getfield 20, 3) := by decide +kernel
theorem dX7_action_99 : decode cX7_action 99 = .ok (.getfield 61, 3) := by decide +kernel
theorem dX7_action_102 : decode cX7_action 102 = .ok (.iload 7, 2) := by decide +kernel
theorem dX7_action_104 : decode cX7_action 104 = .ok (.iload_n 1, 1) := by decide +kernel
theorem dX7_action_105 : decode cX7_action 105 = .ok (.iastore, 1) := by decide +kernel
theorem dX7_action_106 : decode cX7_action 106 = .ok (.aload_n 0, 1) := by decide +kernel
theorem dX7_action_107 : decode cX7_action 107 = .ok (.getfield 20, 3) := by decide +kernel
theorem dX7_action_110 : decode cX7_action 110 = .ok (.getfield 65, 3) := by decide +kernel
theorem dX7_action_113 : decode cX7_action 113 = .ok (.iload 7, 2) := by decide +kernel
theorem dX7_action_115 : decode cX7_action 115 = .ok (.iload_n 2, 1) := by decide +kernel
theorem dX7_action_116 : decode cX7_action 116 = .ok (.iastore, 1) := by decide +kernel
theorem dX7_action_117 : decode cX7_action 117 = .ok (.aload_n 0, 1) := by decide +kernel
theorem dX7_action_118 : decode cX7_action 118 = .ok (.getfield 20, 3) := by decide +kernel
theorem dX7_action_121 : decode cX7_action 121 = .ok (.getfield 68, 3) := by decide +kernel
theorem dX7_action_124 : decode cX7_action 124 = .ok (.iload 7, 2) := by decide +kernel
theorem dX7_action_126 : decode cX7_action 126 = .ok (.iload_n 3, 1) := by decide +kernel
theorem dX7_action_127 : decode cX7_action 127 = .ok (.iastore, 1) := by decide +kernel
theorem dX7_action_128 : decode cX7_action 128 = .ok (.aload_n 0, 1) := by decide +kernel
theorem dX7_action_129 : decode cX7_action 129 = .ok (.getfield 20, 3) := by decide +kernel
theorem dX7_action_132 : decode cX7_action 132 = .ok (.getfield 71, 3) := by decide +kernel
theorem dX7_action_135 : decode cX7_action 135 = .ok (.iload 7, 2) := by decide +kernel
theorem dX7_action_137 : decode cX7_action 137 = .ok (.iload 4, 2) := by decide +kernel
theorem dX7_action_139 : decode cX7_action 139 = .ok (.iastore, 1) := by decide +kernel
theorem dX7_action_140 : decode cX7_action 140 = .ok (.aload_n 0, 1) := by decide +kernel
theorem dX7_action_141 : decode cX7_action 141 = .ok (.getfield 20, 3) := by decide +kernel
theorem dX7_action_144 : decode cX7_action 144 = .ok (.getfield 74, 3) := by decide +kernel
theorem dX7_action_147 : decode cX7_action 147 = .ok (.iload 7, 2) := by decide +kernel
theorem dX7_action_149 : decode cX7_action 149 = .ok (.iload 5, 2) := by decide +kernel
theorem dX7_action_151 : decode cX7_action 151 = .ok (.iastore, 1) := by decide +kernel
theorem dX7_action_152 : decode cX7_action 152 = .ok (.aload_n 0, 1) := by decide +kernel
theorem dX7_action_153 : decode cX7_action 153 = .ok (.getfield 20, 3) := by decide +kernel
theorem dX7_action_156 : decode cX7_action 156 = .ok (.getfield 77, 3) := by decide +kernel
theorem dX7_action_159 : decode cX7_action 159 = .ok (.iload 7, 2) := by decide +kernel
theorem dX7_action_161 : decode cX7_action 161 = .ok (.iload 6, 2) := by decide +kernel
theorem dX7_action_163 : decode cX7_action 163 = .ok (.iastore, 1) := by decide +kernel
theorem dX7_action_164 : decode cX7_action 164 = .ok (.aload_n 0, 1) := by decide +kernel
theorem dX7_action_165 : decode cX7_action 165 = .ok (.getfield 20, 3) := by decide +kernel
theorem dX7_action_168 : decode cX7_action 168 = .ok (.dup, 1) := by decide +kernel
theorem dX7_action_169 : decode cX7_action 169 = .ok (.getfield 54, 3) := by decide +kernel
theorem dX7_action_172 : decode cX7_action 172 = .ok (.iconst 1, 1) := by decide +kernel
theorem dX7_action_173 : decode cX7_action 173 = .ok (.iadd, 1) := by decide +kernel
theorem dX7_action_174 : decode cX7_action 174 = .ok (.putfield 54, 3) := by decide +kernel
theorem dX7_action_177 : decode cX7_action 177 = .ok (.iload 7, 2) := by decide +kernel
theorem dX7_action_179 : decode cX7_action 179 = .ok (.ireturn, 1) := by decide +kernel
theorem dX7_file_0 : decode cX7_file 0 = .ok (.iload_n 1, 1) := by decide +kernel
theorem dX7_file_1 : decode cX7_file 1 = .ok (.bipush 8, 2) := by decide +kernel
theorem dX7_file_3 : decode cX7_file 3 = .ok (.invokestatic 80, 3) := by decide +kernel
theorem dX7_file_6 : decode cX7_file 6 = .ok (.iload_n 2, 1) := by decide +kernel
theorem dX7_file_7 : decode cX7_file 7 = .ok (.iconst 0, 1) := by decide +kernel
theorem dX7_file_8 : decode cX7_file 8 = .ok (.bipush 99, 2) := by decide +kernel
theorem dX7_file_10 : decode cX7_file 10 = .ok (.invokestatic 36, 3) := by decide +kernel
theorem dX7_file_13 : decode cX7_file 13 = .ok (.invokestatic 40, 3) := by decide +kernel
theorem dX7_file_16 : decode cX7_file 16 = .ok (.aload_n 0, 1) := by decide +kernel
theorem dX7_file_17 : decode cX7_file 17 = .ok (.getfield 20, 3) := by decide +kernel
theorem dX7_file_20 : decode cX7_file 20 = .ok (.getfield 84, 3) := by decide +kernel
theorem dX7_file_23 : decode cX7_file 23 = .ok (.iload_n 1, 1) := by decide +kernel
theorem dX7_file_24 : decode cX7_file 24 = .ok (.iaload, 1) := by decide +kernel
theorem dX7_file_25 : decode cX7_file 25 = .ok (.istore_n 3, 1) := by decide +kernel
theorem dX7_file_26 : decode cX7_file 26 = .ok (.aload_n 0, 1) := by decide +kernel
theorem dX7_file_27 : decode cX7_file 27 = .ok (.getfield 20, 3) := by decide +kernel
theorem dX7_file_30 : decode cX7_file 30 = .ok (.getfield 84, 3) := by decide +kernel
theorem dX7_file_33 : decode cX7_file 33 = .ok (.iload_n 1, 1) := by decide +kernel
theorem dX7_file_34 : decode cX7_file 34 = .ok (.iload_n 2, 1) := by decide +kernel
theorem dX7_file_35 : decode cX7_file 35 = .ok (.iastore, 1) := by decide +kernel
theorem dX7_file_36 : decode cX7_file 36 = .ok (.iload_n 3, 1) := by decide +kernel
theorem dX7_file_37 : decode cX7_file 37 = .ok (.ireturn, 1) := by decide +kernel
theorem dX7_set_0 : decode cX7_set 0 = .ok (.iload_n 1, 1) := by decide +kernel
theorem dX7_set_1 : decode cX7_set 1 = .ok (.bipush 6, 2) := by decide +kernel
theorem dX7_set_3 : decode cX7_set 3 = .ok (.invokestatic 80, 3) := by decide +kernel
theorem dX7_set_6 : decode cX7_set 6 = .ok (.iload_n 2, 1) := by decide +kernel
theorem dX7_set_7 : decode cX7_set 7 = .ok (.iconst 0, 1) := by decide +kernel
theorem dX7_set_8 : decode cX7_set 8 = .ok (.bipush 9, 2) := by decide +kernel
theorem dX7_set_10 : decode cX7_set 10 = .ok (.invokestatic 36, 3) := by decide +kernel
theorem dX7_set_13 : decode cX7_set 13 = .ok (.invokestatic 40, 3) := by decide +kernel
theorem dX7_set_16 : decode cX7_set 16 = .ok (.aload_n 0, 1) := by decide +kernel
theorem dX7_set_17 : decode cX7_set 17 = .ok (.getfield 20, 3) := by decide +kernel
theorem dX7_set_20 : decode cX7_set 20 = .ok (.getfield 87, 3) := by decide +kernel
theorem dX7_set_23 : decode cX7_set 23 = .ok (.iload_n 1, 1) := by decide +kernel
theorem dX7_set_24 : decode cX7_set 24 = .ok (.iaload, 1) := by decide +kernel
theorem dX7_set_25 : decode cX7_set 25 = .ok (.istore_n 3, 1) := by decide +kernel
theorem dX7_set_26 : decode cX7_set 26 = .ok (.aload_n 0, 1) := by decide +kernel
theorem dX7_set_27 : decode cX7_set 27 = .ok (.getfield 20, 3) := by decide +kernel
theorem dX7_set_30 : decode cX7_set 30 = .ok (.getfield 87, 3) := by decide +kernel
theorem dX7_set_33 : decode cX7_set 33 = .ok (.iload_n 1, 1) := by decide +kernel
theorem dX7_set_34 : decode cX7_set 34 = .ok (.iload_n 2, 1) := by decide +kernel
theorem dX7_set_35 : decode cX7_set 35 = .ok (.iastore, 1) := by decide +kernel
theorem dX7_set_36 : decode cX7_set 36 = .ok (.iload_n 3, 1) := by decide +kernel
theorem dX7_set_37 : decode cX7_set 37 = .ok (.ireturn, 1) := by decide +kernel
theorem dX7_ofAction_0 : decode cX7_ofAction 0 = .ok (.iload_n 1, 1) := by decide +kernel
theorem dX7_ofAction_1 : decode cX7_ofAction 1 = .ok (.aload_n 0, 1) := by decide +kernel
theorem dX7_ofAction_2 : decode cX7_ofAction 2 = .ok (.getfield 20, 3) := by decide +kernel
theorem dX7_ofAction_5 : decode cX7_ofAction 5 = .ok (.getfield 54, 3) := by decide +kernel
theorem dX7_ofAction_8 : decode cX7_ofAction 8 = .ok (.invokestatic 80, 3) := by decide +kernel
theorem dX7_ofAction_11 : decode cX7_ofAction 11 = .ok (.iload_n 2, 1) := by decide +kernel
theorem dX7_ofAction_12 : decode cX7_ofAction 12 = .ok (.iconst 0, 1) := by decide +kernel
theorem dX7_ofAction_13 : decode cX7_ofAction 13 = .ok (.bipush 7, 2) := by decide +kernel
theorem dX7_ofAction_15 : decode cX7_ofAction 15 = .ok (.invokestatic 36, 3) := by decide +kernel
theorem dX7_ofAction_18 : decode cX7_ofAction 18 = .ok (.invokestatic 40, 3) := by decide +kernel
theorem dX7_ofAction_21 : decode cX7_ofAction 21 = .ok (.iload_n 2, 1) := by decide +kernel
theorem dX7_ofAction_22 : decode cX7_ofAction 22 = .ok (.tableswitch 111 0 6 #[42, 52, 62, 72, 82, 92, 102], 42) := by decide +kernel
theorem dX7_ofAction_64 : decode cX7_ofAction 64 = .ok (.aload_n 0, 1) := by decide +kernel
theorem dX7_ofAction_65 : decode cX7_ofAction 65 = .ok (.getfield 20, 3) := by decide +kernel
theorem dX7_ofAction_68 : decode cX7_ofAction 68 = .ok (.getfield 61, 3) := by decide +kernel
theorem dX7_ofAction_71 : decode cX7_ofAction 71 = .ok (.iload_n 1, 1) := by decide +kernel
theorem dX7_ofAction_72 : decode cX7_ofAction 72 = .ok (.iaload, 1) := by decide +kernel
theorem dX7_ofAction_73 : decode cX7_ofAction 73 = .ok (.ireturn, 1) := by decide +kernel
theorem dX7_ofAction_74 : decode cX7_ofAction 74 = .ok (.aload_n 0, 1) := by decide +kernel
theorem dX7_ofAction_75 : decode cX7_ofAction 75 = .ok (.getfield 20, 3) := by decide +kernel
theorem dX7_ofAction_78 : decode cX7_ofAction 78 = .ok (.getfield 65, 3) := by decide +kernel
theorem dX7_ofAction_81 : decode cX7_ofAction 81 = .ok (.iload_n 1, 1) := by decide +kernel
theorem dX7_ofAction_82 : decode cX7_ofAction 82 = .ok (.iaload, 1) := by decide +kernel
theorem dX7_ofAction_83 : decode cX7_ofAction 83 = .ok (.ireturn, 1) := by decide +kernel
theorem dX7_ofAction_84 : decode cX7_ofAction 84 = .ok (.aload_n 0, 1) := by decide +kernel
theorem dX7_ofAction_85 : decode cX7_ofAction 85 = .ok (.getfield 20, 3) := by decide +kernel
theorem dX7_ofAction_88 : decode cX7_ofAction 88 = .ok (.getfield 68, 3) := by decide +kernel
theorem dX7_ofAction_91 : decode cX7_ofAction 91 = .ok (.iload_n 1, 1) := by decide +kernel
theorem dX7_ofAction_92 : decode cX7_ofAction 92 = .ok (.iaload, 1) := by decide +kernel
theorem dX7_ofAction_93 : decode cX7_ofAction 93 = .ok (.ireturn, 1) := by decide +kernel
theorem dX7_ofAction_94 : decode cX7_ofAction 94 = .ok (.aload_n 0, 1) := by decide +kernel
theorem dX7_ofAction_95 : decode cX7_ofAction 95 = .ok (.getfield 20, 3) := by decide +kernel
theorem dX7_ofAction_98 : decode cX7_ofAction 98 = .ok (.getfield 71, 3) := by decide +kernel
theorem dX7_ofAction_101 : decode cX7_ofAction 101 = .ok (.iload_n 1, 1) := by decide +kernel
theorem dX7_ofAction_102 : decode cX7_ofAction 102 = .ok (.iaload, 1) := by decide +kernel
theorem dX7_ofAction_103 : decode cX7_ofAction 103 = .ok (.ireturn, 1) := by decide +kernel
theorem dX7_ofAction_104 : decode cX7_ofAction 104 = .ok (.aload_n 0, 1) := by decide +kernel
theorem dX7_ofAction_105 : decode cX7_ofAction 105 = .ok (.getfield 20, 3) := by decide +kernel
theorem dX7_ofAction_108 : decode cX7_ofAction 108 = .ok (.getfield 74, 3) := by decide +kernel
theorem dX7_ofAction_111 : decode cX7_ofAction 111 = .ok (.iload_n 1, 1) := by decide +kernel
theorem dX7_ofAction_112 : decode cX7_ofAction 112 = .ok (.iaload, 1) := by decide +kernel
theorem dX7_ofAction_113 : decode cX7_ofAction 113 = .ok (.ireturn, 1) := by decide +kernel
theorem dX7_ofAction_114 : decode cX7_ofAction 114 = .ok (.aload_n 0, 1) := by decide +kernel
theorem dX7_ofAction_115 : decode cX7_ofAction 115 = .ok (.getfield 20, 3) := by decide +kernel
theorem dX7_ofAction_118 : decode cX7_ofAction 118 = .ok (.getfield 77, 3) := by decide +kernel
theorem dX7_ofAction_121 : decode cX7_ofAction 121 = .ok (.iload_n 1, 1) := by decide +kernel
theorem dX7_ofAction_122 : decode cX7_ofAction 122 = .ok (.iaload, 1) := by decide +kernel
theorem dX7_ofAction_123 : decode cX7_ofAction 123 = .ok (.ireturn, 1) := by decide +kernel
theorem dX7_ofAction_124 : decode cX7_ofAction 124 = .ok (.aload_n 0, 1) := by decide +kernel
theorem dX7_ofAction_125 : decode cX7_ofAction 125 = .ok (.getfield 20, 3) := by decide +kernel
theorem dX7_ofAction_128 : decode cX7_ofAction 128 = .ok (.iload_n 1, 1) := by decide +kernel
theorem dX7_ofAction_129 : decode cX7_ofAction 129 = .ok (.invokevirtual 90, 3) := by decide +kernel
theorem dX7_ofAction_132 : decode cX7_ofAction 132 = .ok (.ireturn, 1) := by decide +kernel
theorem dX7_ofAction_133 : decode cX7_ofAction 133 = .ok (.aload_n 0, 1) := by decide +kernel
theorem dX7_ofAction_134 : decode cX7_ofAction 134 = .ok (.getfield 35, 3) := by decide +kernel
theorem dX7_ofAction_137 : decode cX7_ofAction 137 = .ok (.iconst 1, 1) := by decide +kernel
theorem dX7_ofAction_138 : decode cX7_ofAction 138 = .ok (.iload_n 1, 1) := by decide +kernel
theorem dX7_ofAction_139 : decode cX7_ofAction 139 = .ok (.ishl, 1) := by decide +kernel
theorem dX7_ofAction_140 : decode cX7_ofAction 140 = .ok (.invokevirtual 94, 3) := by decide +kernel
theorem dX7_ofAction_143 : decode cX7_ofAction 143 = .ok (.ireturn, 1) := by decide +kernel
theorem dX7_worker_0 : decode cX7_worker 0 = .ok (.iload_n 1, 1) := by decide +kernel
theorem dX7_worker_1 : decode cX7_worker 1 = .ok (.iconst 0, 1) := by decide +kernel
theorem dX7_worker_2 : decode cX7_worker 2 = .ok (.bipush 9, 2) := by decide +kernel
theorem dX7_worker_4 : decode cX7_worker 4 = .ok (.invokestatic 36, 3) := by decide +kernel
theorem dX7_worker_7 : decode cX7_worker 7 = .ok (.invokestatic 40, 3) := by decide +kernel
theorem dX7_worker_10 : decode cX7_worker 10 = .ok (.aload_n 0, 1) := by decide +kernel
theorem dX7_worker_11 : decode cX7_worker 11 = .ok (.getfield 25, 3) := by decide +kernel
theorem dX7_worker_14 : decode cX7_worker 14 = .ok (.getfield 99, 3) := by decide +kernel
theorem dX7_worker_17 : decode cX7_worker 17 = .ok (.iconst 4, 1) := by decide +kernel
theorem dX7_worker_18 : decode cX7_worker 18 = .ok (.if_icmp .ge 7, 3) := by decide +kernel
theorem dX7_worker_21 : decode cX7_worker 21 = .ok (.iconst 1, 1) := by decide +kernel
theorem dX7_worker_22 : decode cX7_worker 22 = .ok (.goto 4, 3) := by decide +kernel
theorem dX7_worker_25 : decode cX7_worker 25 = .ok (.iconst 0, 1) := by decide +kernel
theorem dX7_worker_26 : decode cX7_worker 26 = .ok (.invokestatic 58, 3) := by decide +kernel
theorem dX7_worker_29 : decode cX7_worker 29 = .ok (.aload_n 0, 1) := by decide +kernel
theorem dX7_worker_30 : decode cX7_worker 30 = .ok (.getfield 25, 3) := by decide +kernel
theorem dX7_worker_33 : decode cX7_worker 33 = .ok (.getfield 99, 3) := by decide +kernel
theorem dX7_worker_36 : decode cX7_worker 36 = .ok (.istore_n 2, 1) := by decide +kernel
theorem dX7_worker_37 : decode cX7_worker 37 = .ok (.aload_n 0, 1) := by decide +kernel
theorem dX7_worker_38 : decode cX7_worker 38 = .ok (.getfield 25, 3) := by decide +kernel
theorem dX7_worker_41 : decode cX7_worker 41 = .ok (.getfield 102, 3) := by decide +kernel
theorem dX7_worker_44 : decode cX7_worker 44 = .ok (.iload_n 2, 1) := by decide +kernel
theorem dX7_worker_45 : decode cX7_worker 45 = .ok (.iload_n 1, 1) := by decide +kernel
theorem dX7_worker_46 : decode cX7_worker 46 = .ok (.iastore, 1) := by decide +kernel
theorem dX7_worker_47 : decode cX7_worker 47 = .ok (.aload_n 0, 1) := by decide +kernel
theorem dX7_worker_48 : decode cX7_worker 48 = .ok (.getfield 25, 3) := by decide +kernel
theorem dX7_worker_51 : decode cX7_worker 51 = .ok (.getfield 105, 3) := by decide +kernel
theorem dX7_worker_54 : decode cX7_worker 54 = .ok (.iload_n 2, 1) := by decide +kernel
theorem dX7_worker_55 : decode cX7_worker 55 = .ok (.bipush 50, 2) := by decide +kernel
theorem dX7_worker_57 : decode cX7_worker 57 = .ok (.iastore, 1) := by decide +kernel
theorem dX7_worker_58 : decode cX7_worker 58 = .ok (.aload_n 0, 1) := by decide +kernel
theorem dX7_worker_59 : decode cX7_worker 59 = .ok (.getfield 25, 3) := by decide +kernel
theorem dX7_worker_62 : decode cX7_worker 62 = .ok (.dup, 1) := by decide +kernel
theorem dX7_worker_63 : decode cX7_worker 63 = .ok (.getfield 99, 3) := by decide +kernel
theorem dX7_worker_66 : decode cX7_worker 66 = .ok (.iconst 1, 1) := by decide +kernel
theorem dX7_worker_67 : decode cX7_worker 67 = .ok (.iadd, 1) := by decide +kernel
theorem dX7_worker_68 : decode cX7_worker 68 = .ok (.putfield 99, 3) := by decide +kernel
theorem dX7_worker_71 : decode cX7_worker 71 = .ok (.iload_n 2, 1) := by decide +kernel
theorem dX7_worker_72 : decode cX7_worker 72 = .ok (.ireturn, 1) := by decide +kernel
theorem dX7_ofWorker_0 : decode cX7_ofWorker 0 = .ok (.iload_n 1, 1) := by decide +kernel
theorem dX7_ofWorker_1 : decode cX7_ofWorker 1 = .ok (.aload_n 0, 1) := by decide +kernel
theorem dX7_ofWorker_2 : decode cX7_ofWorker 2 = .ok (.getfield 25, 3) := by decide +kernel
theorem dX7_ofWorker_5 : decode cX7_ofWorker 5 = .ok (.getfield 99, 3) := by decide +kernel
theorem dX7_ofWorker_8 : decode cX7_ofWorker 8 = .ok (.invokestatic 80, 3) := by decide +kernel
theorem dX7_ofWorker_11 : decode cX7_ofWorker 11 = .ok (.iload_n 2, 1) := by decide +kernel
theorem dX7_ofWorker_12 : decode cX7_ofWorker 12 = .ok (.iconst 0, 1) := by decide +kernel
theorem dX7_ofWorker_13 : decode cX7_ofWorker 13 = .ok (.iconst 4, 1) := by decide +kernel
theorem dX7_ofWorker_14 : decode cX7_ofWorker 14 = .ok (.invokestatic 36, 3) := by decide +kernel
theorem dX7_ofWorker_17 : decode cX7_ofWorker 17 = .ok (.invokestatic 40, 3) := by decide +kernel
theorem dX7_ofWorker_20 : decode cX7_ofWorker 20 = .ok (.iload_n 2, 1) := by decide +kernel
theorem dX7_ofWorker_21 : decode cX7_ofWorker 21 = .ok (.tableswitch 70 0 3 #[31, 41, 51, 61], 31) := by decide +kernel
theorem dX7_ofWorker_52 : decode cX7_ofWorker 52 = .ok (.aload_n 0, 1) := by decide +kernel
theorem dX7_ofWorker_53 : decode cX7_ofWorker 53 = .ok (.getfield 25, 3) := by decide +kernel
theorem dX7_ofWorker_56 : decode cX7_ofWorker 56 = .ok (.getfield 105, 3) := by decide +kernel
theorem dX7_ofWorker_59 : decode cX7_ofWorker 59 = .ok (.iload_n 1, 1) := by decide +kernel
theorem dX7_ofWorker_60 : decode cX7_ofWorker 60 = .ok (.iaload, 1) := by decide +kernel
theorem dX7_ofWorker_61 : decode cX7_ofWorker 61 = .ok (.ireturn, 1) := by decide +kernel
theorem dX7_ofWorker_62 : decode cX7_ofWorker 62 = .ok (.aload_n 0, 1) := by decide +kernel
theorem dX7_ofWorker_63 : decode cX7_ofWorker 63 = .ok (.getfield 25, 3) := by decide +kernel
theorem dX7_ofWorker_66 : decode cX7_ofWorker 66 = .ok (.getfield 108, 3) := by decide +kernel
theorem dX7_ofWorker_69 : decode cX7_ofWorker 69 = .ok (.iload_n 1, 1) := by decide +kernel
theorem dX7_ofWorker_70 : decode cX7_ofWorker 70 = .ok (.iaload, 1) := by decide +kernel
theorem dX7_ofWorker_71 : decode cX7_ofWorker 71 = .ok (.ireturn, 1) := by decide +kernel
theorem dX7_ofWorker_72 : decode cX7_ofWorker 72 = .ok (.aload_n 0, 1) := by decide +kernel
theorem dX7_ofWorker_73 : decode cX7_ofWorker 73 = .ok (.getfield 25, 3) := by decide +kernel
theorem dX7_ofWorker_76 : decode cX7_ofWorker 76 = .ok (.getfield 111, 3) := by decide +kernel
theorem dX7_ofWorker_79 : decode cX7_ofWorker 79 = .ok (.iload_n 1, 1) := by decide +kernel
theorem dX7_ofWorker_80 : decode cX7_ofWorker 80 = .ok (.iaload, 1) := by decide +kernel
theorem dX7_ofWorker_81 : decode cX7_ofWorker 81 = .ok (.ireturn, 1) := by decide +kernel
theorem dX7_ofWorker_82 : decode cX7_ofWorker 82 = .ok (.aload_n 0, 1) := by decide +kernel
theorem dX7_ofWorker_83 : decode cX7_ofWorker 83 = .ok (.getfield 35, 3) := by decide +kernel
theorem dX7_ofWorker_86 : decode cX7_ofWorker 86 = .ok (.iload_n 1, 1) := by decide +kernel
theorem dX7_ofWorker_87 : decode cX7_ofWorker 87 = .ok (.invokevirtual 114, 3) := by decide +kernel
theorem dX7_ofWorker_90 : decode cX7_ofWorker 90 = .ok (.ireturn, 1) := by decide +kernel
theorem dX7_ofWorker_91 : decode cX7_ofWorker 91 = .ok (.aload_n 0, 1) := by decide +kernel
theorem dX7_ofWorker_92 : decode cX7_ofWorker 92 = .ok (.getfield 25, 3) := by decide +kernel
theorem dX7_ofWorker_95 : decode cX7_ofWorker 95 = .ok (.getfield 117, 3) := by decide +kernel
theorem dX7_ofWorker_98 : decode cX7_ofWorker 98 = .ok (.iload_n 1, 1) := by decide +kernel
theorem dX7_ofWorker_99 : decode cX7_ofWorker 99 = .ok (.iaload, 1) := by decide +kernel
theorem dX7_ofWorker_100 : decode cX7_ofWorker 100 = .ok (.ireturn, 1) := by decide +kernel
theorem dX7_mend_0 : decode cX7_mend 0 = .ok (.iload_n 1, 1) := by decide +kernel
theorem dX7_mend_1 : decode cX7_mend 1 = .ok (.aload_n 0, 1) := by decide +kernel
theorem dX7_mend_2 : decode cX7_mend 2 = .ok (.getfield 25, 3) := by decide +kernel
theorem dX7_mend_5 : decode cX7_mend 5 = .ok (.getfield 99, 3) := by decide +kernel
theorem dX7_mend_8 : decode cX7_mend 8 = .ok (.invokestatic 80, 3) := by decide +kernel
theorem dX7_mend_11 : decode cX7_mend 11 = .ok (.iload_n 2, 1) := by decide +kernel
theorem dX7_mend_12 : decode cX7_mend 12 = .ok (.iconst 0, 1) := by decide +kernel
theorem dX7_mend_13 : decode cX7_mend 13 = .ok (.bipush 9, 2) := by decide +kernel
theorem dX7_mend_15 : decode cX7_mend 15 = .ok (.invokestatic 36, 3) := by decide +kernel
theorem dX7_mend_18 : decode cX7_mend 18 = .ok (.invokestatic 40, 3) := by decide +kernel
theorem dX7_mend_21 : decode cX7_mend 21 = .ok (.aload_n 0, 1) := by decide +kernel
theorem dX7_mend_22 : decode cX7_mend 22 = .ok (.getfield 25, 3) := by decide +kernel
theorem dX7_mend_25 : decode cX7_mend 25 = .ok (.getfield 105, 3) := by decide +kernel
theorem dX7_mend_28 : decode cX7_mend 28 = .ok (.iload_n 1, 1) := by decide +kernel
theorem dX7_mend_29 : decode cX7_mend 29 = .ok (.iaload, 1) := by decide +kernel
theorem dX7_mend_30 : decode cX7_mend 30 = .ok (.istore_n 3, 1) := by decide +kernel
theorem dX7_mend_31 : decode cX7_mend 31 = .ok (.aload_n 0, 1) := by decide +kernel
theorem dX7_mend_32 : decode cX7_mend 32 = .ok (.getfield 25, 3) := by decide +kernel
theorem dX7_mend_35 : decode cX7_mend 35 = .ok (.getfield 102, 3) := by decide +kernel
theorem dX7_mend_38 : decode cX7_mend 38 = .ok (.iload_n 1, 1) := by decide +kernel
theorem dX7_mend_39 : decode cX7_mend 39 = .ok (.iload_n 2, 1) := by decide +kernel
theorem dX7_mend_40 : decode cX7_mend 40 = .ok (.iastore, 1) := by decide +kernel
theorem dX7_mend_41 : decode cX7_mend 41 = .ok (.aload_n 0, 1) := by decide +kernel
theorem dX7_mend_42 : decode cX7_mend 42 = .ok (.getfield 25, 3) := by decide +kernel
theorem dX7_mend_45 : decode cX7_mend 45 = .ok (.getfield 105, 3) := by decide +kernel
theorem dX7_mend_48 : decode cX7_mend 48 = .ok (.iload_n 1, 1) := by decide +kernel
theorem dX7_mend_49 : decode cX7_mend 49 = .ok (.bipush 50, 2) := by decide +kernel
theorem dX7_mend_51 : decode cX7_mend 51 = .ok (.iastore, 1) := by decide +kernel
theorem dX7_mend_52 : decode cX7_mend 52 = .ok (.iload_n 3, 1) := by decide +kernel
theorem dX7_mend_53 : decode cX7_mend 53 = .ok (.ireturn, 1) := by decide +kernel
theorem dX7_team_0 : decode cX7_team 0 = .ok (.iload_n 1, 1) := by decide +kernel
theorem dX7_team_1 : decode cX7_team 1 = .ok (.iconst 0, 1) := by decide +kernel
theorem dX7_team_2 : decode cX7_team 2 = .ok (.bipush 100, 2) := by decide +kernel
theorem dX7_team_4 : decode cX7_team 4 = .ok (.invokestatic 36, 3) := by decide +kernel
theorem dX7_team_7 : decode cX7_team 7 = .ok (.invokestatic 40, 3) := by decide +kernel
theorem dX7_team_10 : decode cX7_team 10 = .ok (.aload_n 0, 1) := by decide +kernel
theorem dX7_team_11 : decode cX7_team 11 = .ok (.getfield 30, 3) := by decide +kernel
theorem dX7_team_14 : decode cX7_team 14 = .ok (.getfield 120, 3) := by decide +kernel
theorem dX7_team_17 : decode cX7_team 17 = .ok (.iconst 4, 1) := by decide +kernel
theorem dX7_team_18 : decode cX7_team 18 = .ok (.if_icmp .ge 7, 3) := by decide +kernel
theorem dX7_team_21 : decode cX7_team 21 = .ok (.iconst 1, 1) := by decide +kernel
theorem dX7_team_22 : decode cX7_team 22 = .ok (.goto 4, 3) := by decide +kernel
theorem dX7_team_25 : decode cX7_team 25 = .ok (.iconst 0, 1) := by decide +kernel
theorem dX7_team_26 : decode cX7_team 26 = .ok (.invokestatic 58, 3) := by decide +kernel
theorem dX7_team_29 : decode cX7_team 29 = .ok (.aload_n 0, 1) := by decide +kernel
theorem dX7_team_30 : decode cX7_team 30 = .ok (.getfield 30, 3) := by decide +kernel
theorem dX7_team_33 : decode cX7_team 33 = .ok (.getfield 120, 3) := by decide +kernel
theorem dX7_team_36 : decode cX7_team 36 = .ok (.istore_n 2, 1) := by decide +kernel
theorem dX7_team_37 : decode cX7_team 37 = .ok (.aload_n 0, 1) := by decide +kernel
theorem dX7_team_38 : decode cX7_team 38 = .ok (.getfield 30, 3) := by decide +kernel
theorem dX7_team_41 : decode cX7_team 41 = .ok (.getfield 123, 3) := by decide +kernel
theorem dX7_team_44 : decode cX7_team 44 = .ok (.iload_n 2, 1) := by decide +kernel
theorem dX7_team_45 : decode cX7_team 45 = .ok (.iload_n 1, 1) := by decide +kernel
theorem dX7_team_46 : decode cX7_team 46 = .ok (.iastore, 1) := by decide +kernel
theorem dX7_team_47 : decode cX7_team 47 = .ok (.aload_n 0, 1) := by decide +kernel
theorem dX7_team_48 : decode cX7_team 48 = .ok (.getfield 30, 3) := by decide +kernel
theorem dX7_team_51 : decode cX7_team 51 = .ok (.dup, 1) := by decide +kernel
theorem dX7_team_52 : decode cX7_team 52 = .ok (.getfield 120, 3) := by decide +kernel
theorem dX7_team_55 : decode cX7_team 55 = .ok (.iconst 1, 1) := by decide +kernel
theorem dX7_team_56 : decode cX7_team 56 = .ok (.iadd, 1) := by decide +kernel
theorem dX7_team_57 : decode cX7_team 57 = .ok (.putfield 120, 3) := by decide +kernel
theorem dX7_team_60 : decode cX7_team 60 = .ok (.iload_n 2, 1) := by decide +kernel
theorem dX7_team_61 : decode cX7_team 61 = .ok (.ireturn, 1) := by decide +kernel
theorem dX7_quota_0 : decode cX7_quota 0 = .ok (.iload_n 1, 1) := by decide +kernel
theorem dX7_quota_1 : decode cX7_quota 1 = .ok (.aload_n 0, 1) := by decide +kernel
theorem dX7_quota_2 : decode cX7_quota 2 = .ok (.getfield 30, 3) := by decide +kernel
theorem dX7_quota_5 : decode cX7_quota 5 = .ok (.getfield 120, 3) := by decide +kernel
theorem dX7_quota_8 : decode cX7_quota 8 = .ok (.invokestatic 80, 3) := by decide +kernel
theorem dX7_quota_11 : decode cX7_quota 11 = .ok (.iload_n 2, 1) := by decide +kernel
theorem dX7_quota_12 : decode cX7_quota 12 = .ok (.iconst 0, 1) := by decide +kernel
theorem dX7_quota_13 : decode cX7_quota 13 = .ok (.bipush 100, 2) := by decide +kernel
theorem dX7_quota_15 : decode cX7_quota 15 = .ok (.invokestatic 36, 3) := by decide +kernel
theorem dX7_quota_18 : decode cX7_quota 18 = .ok (.invokestatic 40, 3) := by decide +kernel
theorem dX7_quota_21 : decode cX7_quota 21 = .ok (.aload_n 0, 1) := by decide +kernel
theorem dX7_quota_22 : decode cX7_quota 22 = .ok (.getfield 30, 3) := by decide +kernel
theorem dX7_quota_25 : decode cX7_quota 25 = .ok (.getfield 123, 3) := by decide +kernel
theorem dX7_quota_28 : decode cX7_quota 28 = .ok (.iload_n 1, 1) := by decide +kernel
theorem dX7_quota_29 : decode cX7_quota 29 = .ok (.iload_n 2, 1) := by decide +kernel
theorem dX7_quota_30 : decode cX7_quota 30 = .ok (.iastore, 1) := by decide +kernel
theorem dX7_quota_31 : decode cX7_quota 31 = .ok (.aload_n 0, 1) := by decide +kernel
theorem dX7_quota_32 : decode cX7_quota 32 = .ok (.getfield 35, 3) := by decide +kernel
theorem dX7_quota_35 : decode cX7_quota 35 = .ok (.iload_n 1, 1) := by decide +kernel
theorem dX7_quota_36 : decode cX7_quota 36 = .ok (.iload_n 2, 1) := by decide +kernel
theorem dX7_quota_37 : decode cX7_quota 37 = .ok (.invokevirtual 126, 3) := by decide +kernel
theorem dX7_quota_40 : decode cX7_quota 40 = .ok (.ireturn, 1) := by decide +kernel
theorem dX7_ofTeam_0 : decode cX7_ofTeam 0 = .ok (.iload_n 1, 1) := by decide +kernel
theorem dX7_ofTeam_1 : decode cX7_ofTeam 1 = .ok (.aload_n 0, 1) := by decide +kernel
theorem dX7_ofTeam_2 : decode cX7_ofTeam 2 = .ok (.getfield 30, 3) := by decide +kernel
theorem dX7_ofTeam_5 : decode cX7_ofTeam 5 = .ok (.getfield 120, 3) := by decide +kernel
theorem dX7_ofTeam_8 : decode cX7_ofTeam 8 = .ok (.invokestatic 80, 3) := by decide +kernel
theorem dX7_ofTeam_11 : decode cX7_ofTeam 11 = .ok (.iload_n 2, 1) := by decide +kernel
theorem dX7_ofTeam_12 : decode cX7_ofTeam 12 = .ok (.iconst 0, 1) := by decide +kernel
theorem dX7_ofTeam_13 : decode cX7_ofTeam 13 = .ok (.iconst 4, 1) := by decide +kernel
theorem dX7_ofTeam_14 : decode cX7_ofTeam 14 = .ok (.invokestatic 36, 3) := by decide +kernel
theorem dX7_ofTeam_17 : decode cX7_ofTeam 17 = .ok (.invokestatic 40, 3) := by decide +kernel
theorem dX7_ofTeam_20 : decode cX7_ofTeam 20 = .ok (.iload_n 2, 1) := by decide +kernel
theorem dX7_ofTeam_21 : decode cX7_ofTeam 21 = .ok (.tableswitch 70 0 3 #[31, 41, 50, 60], 31) := by decide +kernel
theorem dX7_ofTeam_52 : decode cX7_ofTeam 52 = .ok (.aload_n 0, 1) := by decide +kernel
theorem dX7_ofTeam_53 : decode cX7_ofTeam 53 = .ok (.getfield 30, 3) := by decide +kernel
theorem dX7_ofTeam_56 : decode cX7_ofTeam 56 = .ok (.getfield 123, 3) := by decide +kernel
theorem dX7_ofTeam_59 : decode cX7_ofTeam 59 = .ok (.iload_n 1, 1) := by decide +kernel
theorem dX7_ofTeam_60 : decode cX7_ofTeam 60 = .ok (.iaload, 1) := by decide +kernel
theorem dX7_ofTeam_61 : decode cX7_ofTeam 61 = .ok (.ireturn, 1) := by decide +kernel
theorem dX7_ofTeam_62 : decode cX7_ofTeam 62 = .ok (.aload_n 0, 1) := by decide +kernel
theorem dX7_ofTeam_63 : decode cX7_ofTeam 63 = .ok (.getfield 35, 3) := by decide +kernel
theorem dX7_ofTeam_66 : decode cX7_ofTeam 66 = .ok (.iload_n 1, 1) := by decide +kernel
theorem dX7_ofTeam_67 : decode cX7_ofTeam 67 = .ok (.invokevirtual 130, 3) := by decide +kernel
theorem dX7_ofTeam_70 : decode cX7_ofTeam 70 = .ok (.ireturn, 1) := by decide +kernel
theorem dX7_ofTeam_71 : decode cX7_ofTeam 71 = .ok (.aload_n 0, 1) := by decide +kernel
theorem dX7_ofTeam_72 : decode cX7_ofTeam 72 = .ok (.getfield 30, 3) := by decide +kernel
theorem dX7_ofTeam_75 : decode cX7_ofTeam 75 = .ok (.getfield 133, 3) := by decide +kernel
theorem dX7_ofTeam_78 : decode cX7_ofTeam 78 = .ok (.iload_n 1, 1) := by decide +kernel
theorem dX7_ofTeam_79 : decode cX7_ofTeam 79 = .ok (.iaload, 1) := by decide +kernel
theorem dX7_ofTeam_80 : decode cX7_ofTeam 80 = .ok (.ireturn, 1) := by decide +kernel
theorem dX7_ofTeam_81 : decode cX7_ofTeam 81 = .ok (.aload_n 0, 1) := by decide +kernel
theorem dX7_ofTeam_82 : decode cX7_ofTeam 82 = .ok (.getfield 30, 3) := by decide +kernel
theorem dX7_ofTeam_85 : decode cX7_ofTeam 85 = .ok (.getfield 136, 3) := by decide +kernel
theorem dX7_ofTeam_88 : decode cX7_ofTeam 88 = .ok (.iload_n 1, 1) := by decide +kernel
theorem dX7_ofTeam_89 : decode cX7_ofTeam 89 = .ok (.iaload, 1) := by decide +kernel
theorem dX7_ofTeam_90 : decode cX7_ofTeam 90 = .ok (.ireturn, 1) := by decide +kernel
theorem dX7_ofTeam_91 : decode cX7_ofTeam 91 = .ok (.aload_n 0, 1) := by decide +kernel
theorem dX7_ofTeam_92 : decode cX7_ofTeam 92 = .ok (.getfield 35, 3) := by decide +kernel
theorem dX7_ofTeam_95 : decode cX7_ofTeam 95 = .ok (.iload_n 1, 1) := by decide +kernel
theorem dX7_ofTeam_96 : decode cX7_ofTeam 96 = .ok (.invokevirtual 139, 3) := by decide +kernel
theorem dX7_ofTeam_99 : decode cX7_ofTeam 99 = .ok (.ireturn, 1) := by decide +kernel
theorem dX7_build_0 : decode cX7_build 0 = .ok (.iload_n 1, 1) := by decide +kernel
theorem dX7_build_1 : decode cX7_build 1 = .ok (.aload_n 0, 1) := by decide +kernel
theorem dX7_build_2 : decode cX7_build 2 = .ok (.getfield 30, 3) := by decide +kernel
theorem dX7_build_5 : decode cX7_build 5 = .ok (.getfield 120, 3) := by decide +kernel
theorem dX7_build_8 : decode cX7_build 8 = .ok (.invokestatic 80, 3) := by decide +kernel
theorem dX7_build_11 : decode cX7_build 11 = .ok (.iload_n 2, 1) := by decide +kernel
theorem dX7_build_12 : decode cX7_build 12 = .ok (.aload_n 0, 1) := by decide +kernel
theorem dX7_build_13 : decode cX7_build 13 = .ok (.getfield 20, 3) := by decide +kernel
theorem dX7_build_16 : decode cX7_build 16 = .ok (.getfield 54, 3) := by decide +kernel
theorem dX7_build_19 : decode cX7_build 19 = .ok (.invokestatic 80, 3) := by decide +kernel
theorem dX7_build_22 : decode cX7_build 22 = .ok (.aload_n 0, 1) := by decide +kernel
theorem dX7_build_23 : decode cX7_build 23 = .ok (.getfield 10, 3) := by decide +kernel
theorem dX7_build_26 : decode cX7_build 26 = .ok (.iload_n 1, 1) := by decide +kernel
theorem dX7_build_27 : decode cX7_build 27 = .ok (.iload_n 2, 1) := by decide +kernel
theorem dX7_build_28 : decode cX7_build 28 = .ok (.invokevirtual 142, 3) := by decide +kernel
theorem dX7_build_31 : decode cX7_build 31 = .ok (.istore_n 3, 1) := by decide +kernel
theorem dX7_build_32 : decode cX7_build 32 = .ok (.iload_n 3, 1) := by decide +kernel
theorem dX7_build_33 : decode cX7_build 33 = .ok (.invokestatic 58, 3) := by decide +kernel
theorem dX7_build_36 : decode cX7_build 36 = .ok (.aload_n 0, 1) := by decide +kernel
theorem dX7_build_37 : decode cX7_build 37 = .ok (.getfield 10, 3) := by decide +kernel
theorem dX7_build_40 : decode cX7_build 40 = .ok (.getfield 145, 3) := by decide +kernel
theorem dX7_build_43 : decode cX7_build 43 = .ok (.getfield 149, 3) := by decide +kernel
theorem dX7_build_46 : decode cX7_build 46 = .ok (.iload_n 2, 1) := by decide +kernel
theorem dX7_build_47 : decode cX7_build 47 = .ok (.iaload, 1) := by decide +kernel
theorem dX7_build_48 : decode cX7_build 48 = .ok (.ireturn, 1) := by decide +kernel
theorem dX7_check_0 : decode cX7_check 0 = .ok (.iload_n 1, 1) := by decide +kernel
theorem dX7_check_1 : decode cX7_check 1 = .ok (.iconst 0, 1) := by decide +kernel
theorem dX7_check_2 : decode cX7_check 2 = .ok (.bipush 9, 2) := by decide +kernel
theorem dX7_check_4 : decode cX7_check 4 = .ok (.invokestatic 36, 3) := by decide +kernel
theorem dX7_check_7 : decode cX7_check 7 = .ok (.invokestatic 40, 3) := by decide +kernel
theorem dX7_check_10 : decode cX7_check 10 = .ok (.aload_n 0, 1) := by decide +kernel
theorem dX7_check_11 : decode cX7_check 11 = .ok (.getfield 10, 3) := by decide +kernel
theorem dX7_check_14 : decode cX7_check 14 = .ok (.getfield 154, 3) := by decide +kernel
theorem dX7_check_17 : decode cX7_check 17 = .ok (.istore_n 2, 1) := by decide +kernel
theorem dX7_check_18 : decode cX7_check 18 = .ok (.aload_n 0, 1) := by decide +kernel
theorem dX7_check_19 : decode cX7_check 19 = .ok (.getfield 10, 3) := by decide +kernel
theorem dX7_check_22 : decode cX7_check 22 = .ok (.iload_n 1, 1) := by decide +kernel
theorem dX7_check_23 : decode cX7_check 23 = .ok (.putfield 154, 3) := by decide +kernel
theorem dX7_check_26 : decode cX7_check 26 = .ok (.iload_n 2, 1) := by decide +kernel
theorem dX7_check_27 : decode cX7_check 27 = .ok (.ireturn, 1) := by decide +kernel
theorem dX7_recheck_0 : decode cX7_recheck 0 = .ok (.iload_n 1, 1) := by decide +kernel
theorem dX7_recheck_1 : decode cX7_recheck 1 = .ok (.aload_n 0, 1) := by decide +kernel
theorem dX7_recheck_2 : decode cX7_recheck 2 = .ok (.getfield 35, 3) := by decide +kernel
theorem dX7_recheck_5 : decode cX7_recheck 5 = .ok (.getfield 157, 3) := by decide +kernel
theorem dX7_recheck_8 : decode cX7_recheck 8 = .ok (.invokestatic 80, 3) := by decide +kernel
theorem dX7_recheck_11 : decode cX7_recheck 11 = .ok (.aload_n 0, 1) := by decide +kernel
theorem dX7_recheck_12 : decode cX7_recheck 12 = .ok (.getfield 35, 3) := by decide +kernel
theorem dX7_recheck_15 : decode cX7_recheck 15 = .ok (.getfield 158, 3) := by decide +kernel
theorem dX7_recheck_18 : decode cX7_recheck 18 = .ok (.iload_n 1, 1) := by decide +kernel
theorem dX7_recheck_19 : decode cX7_recheck 19 = .ok (.iaload, 1) := by decide +kernel
theorem dX7_recheck_20 : decode cX7_recheck 20 = .ok (.ifCond .ne 17, 3) := by decide +kernel
theorem dX7_recheck_23 : decode cX7_recheck 23 = .ok (.aload_n 0, 1) := by decide +kernel
theorem dX7_recheck_24 : decode cX7_recheck 24 = .ok (.getfield 35, 3) := by decide +kernel
theorem dX7_recheck_27 : decode cX7_recheck 27 = .ok (.invokevirtual 161, 3) := by decide +kernel
theorem dX7_recheck_30 : decode cX7_recheck 30 = .ok (.ifCond .ne 7, 3) := by decide +kernel
theorem dX7_recheck_33 : decode cX7_recheck 33 = .ok (.iconst 1, 1) := by decide +kernel
theorem dX7_recheck_34 : decode cX7_recheck 34 = .ok (.goto 4, 3) := by decide +kernel
theorem dX7_recheck_37 : decode cX7_recheck 37 = .ok (.iconst 0, 1) := by decide +kernel
theorem dX7_recheck_38 : decode cX7_recheck 38 = .ok (.invokestatic 58, 3) := by decide +kernel
theorem dX7_recheck_41 : decode cX7_recheck 41 = .ok (.aload_n 0, 1) := by decide +kernel
theorem dX7_recheck_42 : decode cX7_recheck 42 = .ok (.getfield 35, 3) := by decide +kernel
theorem dX7_recheck_45 : decode cX7_recheck 45 = .ok (.aload_n 0, 1) := by decide +kernel
theorem dX7_recheck_46 : decode cX7_recheck 46 = .ok (.getfield 20, 3) := by decide +kernel
theorem dX7_recheck_49 : decode cX7_recheck 49 = .ok (.iload_n 1, 1) := by decide +kernel
theorem dX7_recheck_50 : decode cX7_recheck 50 = .ok (.invokevirtual 165, 3) := by decide +kernel
theorem dX7_recheck_53 : decode cX7_recheck 53 = .ok (.invokestatic 58, 3) := by decide +kernel
theorem dX7_recheck_56 : decode cX7_recheck 56 = .ok (.aload_n 0, 1) := by decide +kernel
theorem dX7_recheck_57 : decode cX7_recheck 57 = .ok (.getfield 10, 3) := by decide +kernel
theorem dX7_recheck_60 : decode cX7_recheck 60 = .ok (.iload_n 1, 1) := by decide +kernel
theorem dX7_recheck_61 : decode cX7_recheck 61 = .ok (.invokevirtual 169, 3) := by decide +kernel
theorem dX7_recheck_64 : decode cX7_recheck 64 = .ok (.ireturn, 1) := by decide +kernel
theorem dX7_ofEntry_0 : decode cX7_ofEntry 0 = .ok (.iload_n 1, 1) := by decide +kernel
theorem dX7_ofEntry_1 : decode cX7_ofEntry 1 = .ok (.aload_n 0, 1) := by decide +kernel
theorem dX7_ofEntry_2 : decode cX7_ofEntry 2 = .ok (.getfield 35, 3) := by decide +kernel
theorem dX7_ofEntry_5 : decode cX7_ofEntry 5 = .ok (.getfield 157, 3) := by decide +kernel
theorem dX7_ofEntry_8 : decode cX7_ofEntry 8 = .ok (.invokestatic 80, 3) := by decide +kernel
theorem dX7_ofEntry_11 : decode cX7_ofEntry 11 = .ok (.iload_n 2, 1) := by decide +kernel
theorem dX7_ofEntry_12 : decode cX7_ofEntry 12 = .ok (.iconst 0, 1) := by decide +kernel
theorem dX7_ofEntry_13 : decode cX7_ofEntry 13 = .ok (.bipush 7, 2) := by decide +kernel
theorem dX7_ofEntry_15 : decode cX7_ofEntry 15 = .ok (.invokestatic 36, 3) := by decide +kernel
theorem dX7_ofEntry_18 : decode cX7_ofEntry 18 = .ok (.invokestatic 40, 3) := by decide +kernel
theorem dX7_ofEntry_21 : decode cX7_ofEntry 21 = .ok (.iload_n 2, 1) := by decide +kernel
theorem dX7_ofEntry_22 : decode cX7_ofEntry 22 = .ok (.tableswitch 111 0 6 #[42, 52, 62, 72, 82, 92, 102], 42) := by decide +kernel
theorem dX7_ofEntry_64 : decode cX7_ofEntry 64 = .ok (.aload_n 0, 1) := by decide +kernel
theorem dX7_ofEntry_65 : decode cX7_ofEntry 65 = .ok (.getfield 35, 3) := by decide +kernel
theorem dX7_ofEntry_68 : decode cX7_ofEntry 68 = .ok (.getfield 172, 3) := by decide +kernel
theorem dX7_ofEntry_71 : decode cX7_ofEntry 71 = .ok (.iload_n 1, 1) := by decide +kernel
theorem dX7_ofEntry_72 : decode cX7_ofEntry 72 = .ok (.iaload, 1) := by decide +kernel
theorem dX7_ofEntry_73 : decode cX7_ofEntry 73 = .ok (.ireturn, 1) := by decide +kernel
theorem dX7_ofEntry_74 : decode cX7_ofEntry 74 = .ok (.aload_n 0, 1) := by decide +kernel
theorem dX7_ofEntry_75 : decode cX7_ofEntry 75 = .ok (.getfield 35, 3) := by decide +kernel
theorem dX7_ofEntry_78 : decode cX7_ofEntry 78 = .ok (.getfield 175, 3) := by decide +kernel
theorem dX7_ofEntry_81 : decode cX7_ofEntry 81 = .ok (.iload_n 1, 1) := by decide +kernel
theorem dX7_ofEntry_82 : decode cX7_ofEntry 82 = .ok (.iaload, 1) := by decide +kernel
theorem dX7_ofEntry_83 : decode cX7_ofEntry 83 = .ok (.ireturn, 1) := by decide +kernel
theorem dX7_ofEntry_84 : decode cX7_ofEntry 84 = .ok (.aload_n 0, 1) := by decide +kernel
theorem dX7_ofEntry_85 : decode cX7_ofEntry 85 = .ok (.getfield 35, 3) := by decide +kernel
theorem dX7_ofEntry_88 : decode cX7_ofEntry 88 = .ok (.getfield 178, 3) := by decide +kernel
theorem dX7_ofEntry_91 : decode cX7_ofEntry 91 = .ok (.iload_n 1, 1) := by decide +kernel
theorem dX7_ofEntry_92 : decode cX7_ofEntry 92 = .ok (.iaload, 1) := by decide +kernel
theorem dX7_ofEntry_93 : decode cX7_ofEntry 93 = .ok (.ireturn, 1) := by decide +kernel
theorem dX7_ofEntry_94 : decode cX7_ofEntry 94 = .ok (.aload_n 0, 1) := by decide +kernel
theorem dX7_ofEntry_95 : decode cX7_ofEntry 95 = .ok (.getfield 35, 3) := by decide +kernel
theorem dX7_ofEntry_98 : decode cX7_ofEntry 98 = .ok (.getfield 181, 3) := by decide +kernel
theorem dX7_ofEntry_101 : decode cX7_ofEntry 101 = .ok (.iload_n 1, 1) := by decide +kernel
theorem dX7_ofEntry_102 : decode cX7_ofEntry 102 = .ok (.iaload, 1) := by decide +kernel
theorem dX7_ofEntry_103 : decode cX7_ofEntry 103 = .ok (.ireturn, 1) := by decide +kernel
theorem dX7_ofEntry_104 : decode cX7_ofEntry 104 = .ok (.aload_n 0, 1) := by decide +kernel
theorem dX7_ofEntry_105 : decode cX7_ofEntry 105 = .ok (.getfield 35, 3) := by decide +kernel
theorem dX7_ofEntry_108 : decode cX7_ofEntry 108 = .ok (.getfield 182, 3) := by decide +kernel
theorem dX7_ofEntry_111 : decode cX7_ofEntry 111 = .ok (.iload_n 1, 1) := by decide +kernel
theorem dX7_ofEntry_112 : decode cX7_ofEntry 112 = .ok (.iaload, 1) := by decide +kernel
theorem dX7_ofEntry_113 : decode cX7_ofEntry 113 = .ok (.ireturn, 1) := by decide +kernel
theorem dX7_ofEntry_114 : decode cX7_ofEntry 114 = .ok (.aload_n 0, 1) := by decide +kernel
theorem dX7_ofEntry_115 : decode cX7_ofEntry 115 = .ok (.getfield 35, 3) := by decide +kernel
theorem dX7_ofEntry_118 : decode cX7_ofEntry 118 = .ok (.getfield 158, 3) := by decide +kernel
theorem dX7_ofEntry_121 : decode cX7_ofEntry 121 = .ok (.iload_n 1, 1) := by decide +kernel
theorem dX7_ofEntry_122 : decode cX7_ofEntry 122 = .ok (.iaload, 1) := by decide +kernel
theorem dX7_ofEntry_123 : decode cX7_ofEntry 123 = .ok (.ireturn, 1) := by decide +kernel
theorem dX7_ofEntry_124 : decode cX7_ofEntry 124 = .ok (.aload_n 0, 1) := by decide +kernel
theorem dX7_ofEntry_125 : decode cX7_ofEntry 125 = .ok (.getfield 35, 3) := by decide +kernel
theorem dX7_ofEntry_128 : decode cX7_ofEntry 128 = .ok (.iload_n 1, 1) := by decide +kernel
theorem dX7_ofEntry_129 : decode cX7_ofEntry 129 = .ok (.invokevirtual 185, 3) := by decide +kernel
theorem dX7_ofEntry_132 : decode cX7_ofEntry 132 = .ok (.ireturn, 1) := by decide +kernel
theorem dX7_ofEntry_133 : decode cX7_ofEntry 133 = .ok (.aload_n 0, 1) := by decide +kernel
theorem dX7_ofEntry_134 : decode cX7_ofEntry 134 = .ok (.getfield 35, 3) := by decide +kernel
theorem dX7_ofEntry_137 : decode cX7_ofEntry 137 = .ok (.iload_n 1, 1) := by decide +kernel
theorem dX7_ofEntry_138 : decode cX7_ofEntry 138 = .ok (.invokevirtual 188, 3) := by decide +kernel
theorem dX7_ofEntry_141 : decode cX7_ofEntry 141 = .ok (.invokestatic 192, 3) := by decide +kernel
theorem dX7_ofEntry_144 : decode cX7_ofEntry 144 = .ok (.ireturn, 1) := by decide +kernel
theorem dX7_from_0 : decode cX7_from 0 = .ok (.iload_n 1, 1) := by decide +kernel
theorem dX7_from_1 : decode cX7_from 1 = .ok (.aload_n 0, 1) := by decide +kernel
theorem dX7_from_2 : decode cX7_from 2 = .ok (.getfield 35, 3) := by decide +kernel
theorem dX7_from_5 : decode cX7_from 5 = .ok (.getfield 157, 3) := by decide +kernel
theorem dX7_from_8 : decode cX7_from 8 = .ok (.invokestatic 80, 3) := by decide +kernel
theorem dX7_from_11 : decode cX7_from 11 = .ok (.iload_n 2, 1) := by decide +kernel
theorem dX7_from_12 : decode cX7_from 12 = .ok (.aload_n 0, 1) := by decide +kernel
theorem dX7_from_13 : decode cX7_from 13 = .ok (.getfield 20, 3) := by decide +kernel
theorem dX7_from_16 : decode cX7_from 16 = .ok (.getfield 54, 3) := by decide +kernel
theorem dX7_from_19 : decode cX7_from 19 = .ok (.invokestatic 80, 3) := by decide +kernel
theorem dX7_from_22 : decode cX7_from 22 = .ok (.aload_n 0, 1) := by decide +kernel
theorem dX7_from_23 : decode cX7_from 23 = .ok (.getfield 35, 3) := by decide +kernel
theorem dX7_from_26 : decode cX7_from 26 = .ok (.getfield 198, 3) := by decide +kernel
theorem dX7_from_29 : decode cX7_from 29 = .ok (.iload_n 1, 1) := by decide +kernel
theorem dX7_from_30 : decode cX7_from 30 = .ok (.bipush 14, 2) := by decide +kernel
theorem dX7_from_32 : decode cX7_from 32 = .ok (.imul, 1) := by decide +kernel
theorem dX7_from_33 : decode cX7_from 33 = .ok (.iload_n 2, 1) := by decide +kernel
theorem dX7_from_34 : decode cX7_from 34 = .ok (.iadd, 1) := by decide +kernel
theorem dX7_from_35 : decode cX7_from 35 = .ok (.iaload, 1) := by decide +kernel
theorem dX7_from_36 : decode cX7_from 36 = .ok (.istore_n 3, 1) := by decide +kernel
theorem dX7_from_37 : decode cX7_from 37 = .ok (.iload_n 3, 1) := by decide +kernel
theorem dX7_from_38 : decode cX7_from 38 = .ok (.aload_n 0, 1) := by decide +kernel
theorem dX7_from_39 : decode cX7_from 39 = .ok (.getfield 35, 3) := by decide +kernel
theorem dX7_from_42 : decode cX7_from 42 = .ok (.getfield 157, 3) := by decide +kernel
theorem dX7_from_45 : decode cX7_from 45 = .ok (.invokestatic 80, 3) := by decide +kernel
theorem dX7_from_48 : decode cX7_from 48 = .ok (.iload_n 3, 1) := by decide +kernel
theorem dX7_from_49 : decode cX7_from 49 = .ok (.ireturn, 1) := by decide +kernel
theorem dX7_many_0 : decode cX7_many 0 = .ok (.iload_n 1, 1) := by decide +kernel
theorem dX7_many_1 : decode cX7_many 1 = .ok (.iconst 0, 1) := by decide +kernel
theorem dX7_many_2 : decode cX7_many 2 = .ok (.bipush 9, 2) := by decide +kernel
theorem dX7_many_4 : decode cX7_many 4 = .ok (.invokestatic 36, 3) := by decide +kernel
theorem dX7_many_7 : decode cX7_many 7 = .ok (.invokestatic 40, 3) := by decide +kernel
theorem dX7_many_10 : decode cX7_many 10 = .ok (.iload_n 1, 1) := by decide +kernel
theorem dX7_many_11 : decode cX7_many 11 = .ok (.tableswitch 124 0 8 #[49, 57, 65, 73, 81, 90, 99, 108, 116], 49) := by decide +kernel
theorem dX7_many_60 : decode cX7_many 60 = .ok (.aload_n 0, 1) := by decide +kernel
theorem dX7_many_61 : decode cX7_many 61 = .ok (.getfield 20, 3) := by decide +kernel
theorem dX7_many_64 : decode cX7_many 64 = .ok (.getfield 54, 3) := by decide +kernel
theorem dX7_many_67 : decode cX7_many 67 = .ok (.ireturn, 1) := by decide +kernel
theorem dX7_many_68 : decode cX7_many 68 = .ok (.aload_n 0, 1) := by decide +kernel
theorem dX7_many_69 : decode cX7_many 69 = .ok (.getfield 25, 3) := by decide +kernel
theorem dX7_many_72 : decode cX7_many 72 = .ok (.getfield 99, 3) := by decide +kernel
theorem dX7_many_75 : decode cX7_many 75 = .ok (.ireturn, 1) := by decide +kernel
theorem dX7_many_76 : decode cX7_many 76 = .ok (.aload_n 0, 1) := by decide +kernel
theorem dX7_many_77 : decode cX7_many 77 = .ok (.getfield 30, 3) := by decide +kernel
theorem dX7_many_80 : decode cX7_many 80 = .ok (.getfield 120, 3) := by decide +kernel
theorem dX7_many_83 : decode cX7_many 83 = .ok (.ireturn, 1) := by decide +kernel
theorem dX7_many_84 : decode cX7_many 84 = .ok (.aload_n 0, 1) := by decide +kernel
theorem dX7_many_85 : decode cX7_many 85 = .ok (.getfield 35, 3) := by decide +kernel
theorem dX7_many_88 : decode cX7_many 88 = .ok (.getfield 157, 3) := by decide +kernel
theorem dX7_many_91 : decode cX7_many 91 = .ok (.ireturn, 1) := by decide +kernel
theorem dX7_many_92 : decode cX7_many 92 = .ok (.aload_n 0, 1) := by decide +kernel
theorem dX7_many_93 : decode cX7_many 93 = .ok (.getfield 35, 3) := by decide +kernel
theorem dX7_many_96 : decode cX7_many 96 = .ok (.iconst 0, 1) := by decide +kernel
theorem dX7_many_97 : decode cX7_many 97 = .ok (.invokevirtual 201, 3) := by decide +kernel
theorem dX7_many_100 : decode cX7_many 100 = .ok (.ireturn, 1) := by decide +kernel
theorem dX7_many_101 : decode cX7_many 101 = .ok (.aload_n 0, 1) := by decide +kernel
theorem dX7_many_102 : decode cX7_many 102 = .ok (.getfield 35, 3) := by decide +kernel
theorem dX7_many_105 : decode cX7_many 105 = .ok (.iconst 1, 1) := by decide +kernel
theorem dX7_many_106 : decode cX7_many 106 = .ok (.invokevirtual 201, 3) := by decide +kernel
theorem dX7_many_109 : decode cX7_many 109 = .ok (.ireturn, 1) := by decide +kernel
theorem dX7_many_110 : decode cX7_many 110 = .ok (.aload_n 0, 1) := by decide +kernel
theorem dX7_many_111 : decode cX7_many 111 = .ok (.getfield 35, 3) := by decide +kernel
theorem dX7_many_114 : decode cX7_many 114 = .ok (.iconst 2, 1) := by decide +kernel
theorem dX7_many_115 : decode cX7_many 115 = .ok (.invokevirtual 201, 3) := by decide +kernel
theorem dX7_many_118 : decode cX7_many 118 = .ok (.ireturn, 1) := by decide +kernel
theorem dX7_many_119 : decode cX7_many 119 = .ok (.aload_n 0, 1) := by decide +kernel
theorem dX7_many_120 : decode cX7_many 120 = .ok (.getfield 35, 3) := by decide +kernel
theorem dX7_many_123 : decode cX7_many 123 = .ok (.invokevirtual 204, 3) := by decide +kernel
theorem dX7_many_126 : decode cX7_many 126 = .ok (.ireturn, 1) := by decide +kernel
theorem dX7_many_127 : decode cX7_many 127 = .ok (.aload_n 0, 1) := by decide +kernel
theorem dX7_many_128 : decode cX7_many 128 = .ok (.getfield 25, 3) := by decide +kernel
theorem dX7_many_131 : decode cX7_many 131 = .ok (.invokevirtual 207, 3) := by decide +kernel
theorem dX7_many_134 : decode cX7_many 134 = .ok (.ireturn, 1) := by decide +kernel
theorem dX7_many_135 : decode cX7_many 135 = .ok (.aload_n 0, 1) := by decide +kernel
theorem dX7_many_136 : decode cX7_many 136 = .ok (.getfield 35, 3) := by decide +kernel
theorem dX7_many_139 : decode cX7_many 139 = .ok (.getfield 210, 3) := by decide +kernel
theorem dX7_many_142 : decode cX7_many 142 = .ok (.ireturn, 1) := by decide +kernel
theorem dX7_hitShare_0 : decode cX7_hitShare 0 = .ok (.aload_n 0, 1) := by decide +kernel
theorem dX7_hitShare_1 : decode cX7_hitShare 1 = .ok (.getfield 35, 3) := by decide +kernel
theorem dX7_hitShare_4 : decode cX7_hitShare 4 = .ok (.invokevirtual 204, 3) := by decide +kernel
theorem dX7_hitShare_7 : decode cX7_hitShare 7 = .ok (.istore_n 1, 1) := by decide +kernel
theorem dX7_hitShare_8 : decode cX7_hitShare 8 = .ok (.iload_n 1, 1) := by decide +kernel
theorem dX7_hitShare_9 : decode cX7_hitShare 9 = .ok (.aload_n 0, 1) := by decide +kernel
theorem dX7_hitShare_10 : decode cX7_hitShare 10 = .ok (.getfield 35, 3) := by decide +kernel
theorem dX7_hitShare_13 : decode cX7_hitShare 13 = .ok (.getfield 157, 3) := by decide +kernel
theorem dX7_hitShare_16 : decode cX7_hitShare 16 = .ok (.iadd, 1) := by decide +kernel
theorem dX7_hitShare_17 : decode cX7_hitShare 17 = .ok (.istore_n 2, 1) := by decide +kernel
theorem dX7_hitShare_18 : decode cX7_hitShare 18 = .ok (.iload_n 2, 1) := by decide +kernel
theorem dX7_hitShare_19 : decode cX7_hitShare 19 = .ok (.iconst 1, 1) := by decide +kernel
theorem dX7_hitShare_20 : decode cX7_hitShare 20 = .ok (.if_icmp .ge 7, 3) := by decide +kernel
theorem dX7_hitShare_23 : decode cX7_hitShare 23 = .ok (.dconst 0, 1) := by decide +kernel
theorem dX7_hitShare_24 : decode cX7_hitShare 24 = .ok (.goto 8, 3) := by decide +kernel
theorem dX7_hitShare_27 : decode cX7_hitShare 27 = .ok (.iload_n 1, 1) := by decide +kernel
theorem dX7_hitShare_28 : decode cX7_hitShare 28 = .ok (.i2d, 1) := by decide +kernel
theorem dX7_hitShare_29 : decode cX7_hitShare 29 = .ok (.iload_n 2, 1) := by decide +kernel
theorem dX7_hitShare_30 : decode cX7_hitShare 30 = .ok (.i2d, 1) := by decide +kernel
theorem dX7_hitShare_31 : decode cX7_hitShare 31 = .ok (.ddiv, 1) := by decide +kernel
theorem dX7_hitShare_32 : decode cX7_hitShare 32 = .ok (.dreturn, 1) := by decide +kernel
theorem dX7_wouldRun_0 : decode cX7_wouldRun 0 = .ok (.iload_n 1, 1) := by decide +kernel
theorem dX7_wouldRun_1 : decode cX7_wouldRun 1 = .ok (.aload_n 0, 1) := by decide +kernel
theorem dX7_wouldRun_2 : decode cX7_wouldRun 2 = .ok (.getfield 30, 3) := by decide +kernel
theorem dX7_wouldRun_5 : decode cX7_wouldRun 5 = .ok (.getfield 120, 3) := by decide +kernel
theorem dX7_wouldRun_8 : decode cX7_wouldRun 8 = .ok (.invokestatic 80, 3) := by decide +kernel
theorem dX7_wouldRun_11 : decode cX7_wouldRun 11 = .ok (.iload_n 2, 1) := by decide +kernel
theorem dX7_wouldRun_12 : decode cX7_wouldRun 12 = .ok (.aload_n 0, 1) := by decide +kernel
theorem dX7_wouldRun_13 : decode cX7_wouldRun 13 = .ok (.getfield 20, 3) := by decide +kernel
theorem dX7_wouldRun_16 : decode cX7_wouldRun 16 = .ok (.getfield 54, 3) := by decide +kernel
theorem dX7_wouldRun_19 : decode cX7_wouldRun 19 = .ok (.invokestatic 80, 3) := by decide +kernel
theorem dX7_wouldRun_22 : decode cX7_wouldRun 22 = .ok (.aload_n 0, 1) := by decide +kernel
theorem dX7_wouldRun_23 : decode cX7_wouldRun 23 = .ok (.getfield 10, 3) := by decide +kernel
theorem dX7_wouldRun_26 : decode cX7_wouldRun 26 = .ok (.iload_n 1, 1) := by decide +kernel
theorem dX7_wouldRun_27 : decode cX7_wouldRun 27 = .ok (.iload_n 2, 1) := by decide +kernel
theorem dX7_wouldRun_28 : decode cX7_wouldRun 28 = .ok (.invokevirtual 213, 3) := by decide +kernel
theorem dX7_wouldRun_31 : decode cX7_wouldRun 31 = .ok (.ireturn, 1) := by decide +kernel
theorem dX7_wouldBeWrong_0 : decode cX7_wouldBeWrong 0 = .ok (.iload_n 1, 1) := by decide +kernel
theorem dX7_wouldBeWrong_1 : decode cX7_wouldBeWrong 1 = .ok (.aload_n 0, 1) := by decide +kernel
theorem dX7_wouldBeWrong_2 : decode cX7_wouldBeWrong 2 = .ok (.getfield 30, 3) := by decide +kernel
theorem dX7_wouldBeWrong_5 : decode cX7_wouldBeWrong 5 = .ok (.getfield 120, 3) := by decide +kernel
theorem dX7_wouldBeWrong_8 : decode cX7_wouldBeWrong 8 = .ok (.invokestatic 80, 3) := by decide +kernel
theorem dX7_wouldBeWrong_11 : decode cX7_wouldBeWrong 11 = .ok (.iload_n 2, 1) := by decide +kernel
theorem dX7_wouldBeWrong_12 : decode cX7_wouldBeWrong 12 = .ok (.aload_n 0, 1) := by decide +kernel
theorem dX7_wouldBeWrong_13 : decode cX7_wouldBeWrong 13 = .ok (.getfield 20, 3) := by decide +kernel
theorem dX7_wouldBeWrong_16 : decode cX7_wouldBeWrong 16 = .ok (.getfield 54, 3) := by decide +kernel
theorem dX7_wouldBeWrong_19 : decode cX7_wouldBeWrong 19 = .ok (.invokestatic 80, 3) := by decide +kernel
theorem dX7_wouldBeWrong_22 : decode cX7_wouldBeWrong 22 = .ok (.aload_n 0, 1) := by decide +kernel
theorem dX7_wouldBeWrong_23 : decode cX7_wouldBeWrong 23 = .ok (.getfield 10, 3) := by decide +kernel
theorem dX7_wouldBeWrong_26 : decode cX7_wouldBeWrong 26 = .ok (.iload_n 1, 1) := by decide +kernel
theorem dX7_wouldBeWrong_27 : decode cX7_wouldBeWrong 27 = .ok (.iload_n 2, 1) := by decide +kernel
theorem dX7_wouldBeWrong_28 : decode cX7_wouldBeWrong 28 = .ok (.invokevirtual 216, 3) := by decide +kernel
theorem dX7_wouldBeWrong_31 : decode cX7_wouldBeWrong 31 = .ok (.ireturn, 1) := by decide +kernel
theorem dX7_touched_0 : decode cX7_touched 0 = .ok (.iload_n 1, 1) := by decide +kernel
theorem dX7_touched_1 : decode cX7_touched 1 = .ok (.bipush 8, 2) := by decide +kernel
theorem dX7_touched_3 : decode cX7_touched 3 = .ok (.invokestatic 80, 3) := by decide +kernel
theorem dX7_touched_6 : decode cX7_touched 6 = .ok (.aload_n 0, 1) := by decide +kernel
theorem dX7_touched_7 : decode cX7_touched 7 = .ok (.getfield 35, 3) := by decide +kernel
theorem dX7_touched_10 : decode cX7_touched 10 = .ok (.aload_n 0, 1) := by decide +kernel
theorem dX7_touched_11 : decode cX7_touched 11 = .ok (.getfield 20, 3) := by decide +kernel
theorem dX7_touched_14 : decode cX7_touched 14 = .ok (.iload_n 1, 1) := by decide +kernel
theorem dX7_touched_15 : decode cX7_touched 15 = .ok (.invokevirtual 219, 3) := by decide +kernel
theorem dX7_touched_18 : decode cX7_touched 18 = .ok (.invokevirtual 94, 3) := by decide +kernel
theorem dX7_touched_21 : decode cX7_touched 21 = .ok (.ireturn, 1) := by decide +kernel
theorem dX7_wouldGo_0 : decode cX7_wouldGo 0 = .ok (.iload_n 1, 1) := by decide +kernel
theorem dX7_wouldGo_1 : decode cX7_wouldGo 1 = .ok (.aload_n 0, 1) := by decide +kernel
theorem dX7_wouldGo_2 : decode cX7_wouldGo 2 = .ok (.getfield 30, 3) := by decide +kernel
theorem dX7_wouldGo_5 : decode cX7_wouldGo 5 = .ok (.getfield 120, 3) := by decide +kernel
theorem dX7_wouldGo_8 : decode cX7_wouldGo 8 = .ok (.invokestatic 80, 3) := by decide +kernel
theorem dX7_wouldGo_11 : decode cX7_wouldGo 11 = .ok (.iload_n 2, 1) := by decide +kernel
theorem dX7_wouldGo_12 : decode cX7_wouldGo 12 = .ok (.iconst 1, 1) := by decide +kernel
theorem dX7_wouldGo_13 : decode cX7_wouldGo 13 = .ok (.bipush 20, 2) := by decide +kernel
theorem dX7_wouldGo_15 : decode cX7_wouldGo 15 = .ok (.invokestatic 36, 3) := by decide +kernel
theorem dX7_wouldGo_18 : decode cX7_wouldGo 18 = .ok (.invokestatic 40, 3) := by decide +kernel
theorem dX7_wouldGo_21 : decode cX7_wouldGo 21 = .ok (.aload_n 0, 1) := by decide +kernel
theorem dX7_wouldGo_22 : decode cX7_wouldGo 22 = .ok (.getfield 10, 3) := by decide +kernel
theorem dX7_wouldGo_25 : decode cX7_wouldGo 25 = .ok (.iload_n 1, 1) := by decide +kernel
theorem dX7_wouldGo_26 : decode cX7_wouldGo 26 = .ok (.iload_n 2, 1) := by decide +kernel
theorem dX7_wouldGo_27 : decode cX7_wouldGo 27 = .ok (.invokevirtual 222, 3) := by decide +kernel
theorem dX7_wouldGo_30 : decode cX7_wouldGo 30 = .ok (.ireturn, 1) := by decide +kernel
theorem dX7_digest_0 : decode cX7_digest 0 = .ok (.ldc2_w 225, 3) := by decide +kernel
theorem dX7_digest_3 : decode cX7_digest 3 = .ok (.lstore_n 1, 1) := by decide +kernel
theorem dX7_digest_4 : decode cX7_digest 4 = .ok (.iconst 0, 1) := by decide +kernel
theorem dX7_digest_5 : decode cX7_digest 5 = .ok (.istore_n 3, 1) := by decide +kernel
theorem dX7_digest_6 : decode cX7_digest 6 = .ok (.iload_n 3, 1) := by decide +kernel
theorem dX7_digest_7 : decode cX7_digest 7 = .ok (.bipush 9, 2) := by decide +kernel
theorem dX7_digest_9 : decode cX7_digest 9 = .ok (.if_icmp .gt 22, 3) := by decide +kernel
theorem dX7_digest_12 : decode cX7_digest 12 = .ok (.lload_n 1, 1) := by decide +kernel
theorem dX7_digest_13 : decode cX7_digest 13 = .ok (.ldc2_w 227, 3) := by decide +kernel
theorem dX7_digest_16 : decode cX7_digest 16 = .ok (.lmul, 1) := by decide +kernel
theorem dX7_digest_17 : decode cX7_digest 17 = .ok (.aload_n 0, 1) := by decide +kernel
theorem dX7_digest_18 : decode cX7_digest 18 = .ok (.iload_n 3, 1) := by decide +kernel
theorem dX7_digest_19 : decode cX7_digest 19 = .ok (.invokevirtual 229, 3) := by decide +kernel
theorem dX7_digest_22 : decode cX7_digest 22 = .ok (.i2l, 1) := by decide +kernel
theorem dX7_digest_23 : decode cX7_digest 23 = .ok (.ladd, 1) := by decide +kernel
theorem dX7_digest_24 : decode cX7_digest 24 = .ok (.lstore_n 1, 1) := by decide +kernel
theorem dX7_digest_25 : decode cX7_digest 25 = .ok (.iinc 3 1, 3) := by decide +kernel
theorem dX7_digest_28 : decode cX7_digest 28 = .ok (.goto (-22), 3) := by decide +kernel
theorem dX7_digest_31 : decode cX7_digest 31 = .ok (.iconst 0, 1) := by decide +kernel
theorem dX7_digest_32 : decode cX7_digest 32 = .ok (.istore_n 3, 1) := by decide +kernel
theorem dX7_digest_33 : decode cX7_digest 33 = .ok (.iload_n 3, 1) := by decide +kernel
theorem dX7_digest_34 : decode cX7_digest 34 = .ok (.aload_n 0, 1) := by decide +kernel
theorem dX7_digest_35 : decode cX7_digest 35 = .ok (.getfield 20, 3) := by decide +kernel
theorem dX7_digest_38 : decode cX7_digest 38 = .ok (.getfield 54, 3) := by decide +kernel
theorem dX7_digest_41 : decode cX7_digest 41 = .ok (.if_icmp .ge 40, 3) := by decide +kernel
theorem dX7_digest_44 : decode cX7_digest 44 = .ok (.iconst 0, 1) := by decide +kernel
theorem dX7_digest_45 : decode cX7_digest 45 = .ok (.istore 4, 2) := by decide +kernel
theorem dX7_digest_47 : decode cX7_digest 47 = .ok (.iload 4, 2) := by decide +kernel
theorem dX7_digest_49 : decode cX7_digest 49 = .ok (.bipush 7, 2) := by decide +kernel
theorem dX7_digest_51 : decode cX7_digest 51 = .ok (.if_icmp .gt 24, 3) := by decide +kernel
theorem dX7_digest_54 : decode cX7_digest 54 = .ok (.lload_n 1, 1) := by decide +kernel
theorem dX7_digest_55 : decode cX7_digest 55 = .ok (.ldc2_w 227, 3) := by decide +kernel
theorem dX7_digest_58 : decode cX7_digest 58 = .ok (.lmul, 1) := by decide +kernel
theorem dX7_digest_59 : decode cX7_digest 59 = .ok (.aload_n 0, 1) := by decide +kernel
theorem dX7_digest_60 : decode cX7_digest 60 = .ok (.iload_n 3, 1) := by decide +kernel
theorem dX7_digest_61 : decode cX7_digest 61 = .ok (.iload 4, 2) := by decide +kernel
theorem dX7_digest_63 : decode cX7_digest 63 = .ok (.invokevirtual 232, 3) := by decide +kernel
theorem dX7_digest_66 : decode cX7_digest 66 = .ok (.i2l, 1) := by decide +kernel
theorem dX7_digest_67 : decode cX7_digest 67 = .ok (.ladd, 1) := by decide +kernel
theorem dX7_digest_68 : decode cX7_digest 68 = .ok (.lstore_n 1, 1) := by decide +kernel
theorem dX7_digest_69 : decode cX7_digest 69 = .ok (.iinc 4 1, 3) := by decide +kernel
theorem dX7_digest_72 : decode cX7_digest 72 = .ok (.goto (-25), 3) := by decide +kernel
theorem dX7_digest_75 : decode cX7_digest 75 = .ok (.iinc 3 1, 3) := by decide +kernel
theorem dX7_digest_78 : decode cX7_digest 78 = .ok (.goto (-45), 3) := by decide +kernel
theorem dX7_digest_81 : decode cX7_digest 81 = .ok (.iconst 0, 1) := by decide +kernel
theorem dX7_digest_82 : decode cX7_digest 82 = .ok (.istore_n 3, 1) := by decide +kernel
theorem dX7_digest_83 : decode cX7_digest 83 = .ok (.iload_n 3, 1) := by decide +kernel
theorem dX7_digest_84 : decode cX7_digest 84 = .ok (.aload_n 0, 1) := by decide +kernel
theorem dX7_digest_85 : decode cX7_digest 85 = .ok (.getfield 25, 3) := by decide +kernel
theorem dX7_digest_88 : decode cX7_digest 88 = .ok (.getfield 99, 3) := by decide +kernel
theorem dX7_digest_91 : decode cX7_digest 91 = .ok (.if_icmp .ge 39, 3) := by decide +kernel
theorem dX7_digest_94 : decode cX7_digest 94 = .ok (.iconst 0, 1) := by decide +kernel
theorem dX7_digest_95 : decode cX7_digest 95 = .ok (.istore 4, 2) := by decide +kernel
theorem dX7_digest_97 : decode cX7_digest 97 = .ok (.iload 4, 2) := by decide +kernel
theorem dX7_digest_99 : decode cX7_digest 99 = .ok (.iconst 4, 1) := by decide +kernel
theorem dX7_digest_100 : decode cX7_digest 100 = .ok (.if_icmp .gt 24, 3) := by decide +kernel
theorem dX7_digest_103 : decode cX7_digest 103 = .ok (.lload_n 1, 1) := by decide +kernel
theorem dX7_digest_104 : decode cX7_digest 104 = .ok (.ldc2_w 227, 3) := by decide +kernel
theorem dX7_digest_107 : decode cX7_digest 107 = .ok (.lmul, 1) := by decide +kernel
theorem dX7_digest_108 : decode cX7_digest 108 = .ok (.aload_n 0, 1) := by decide +kernel
theorem dX7_digest_109 : decode cX7_digest 109 = .ok (.iload_n 3, 1) := by decide +kernel
theorem dX7_digest_110 : decode cX7_digest 110 = .ok (.iload 4, 2) := by decide +kernel
theorem dX7_digest_112 : decode cX7_digest 112 = .ok (.invokevirtual 235, 3) := by decide +kernel
theorem dX7_digest_115 : decode cX7_digest 115 = .ok (.i2l, 1) := by decide +kernel
theorem dX7_digest_116 : decode cX7_digest 116 = .ok (.ladd, 1) := by decide +kernel
theorem dX7_digest_117 : decode cX7_digest 117 = .ok (.lstore_n 1, 1) := by decide +kernel
theorem dX7_digest_118 : decode cX7_digest 118 = .ok (.iinc 4 1, 3) := by decide +kernel
theorem dX7_digest_121 : decode cX7_digest 121 = .ok (.goto (-24), 3) := by decide +kernel
theorem dX7_digest_124 : decode cX7_digest 124 = .ok (.iinc 3 1, 3) := by decide +kernel
theorem dX7_digest_127 : decode cX7_digest 127 = .ok (.goto (-44), 3) := by decide +kernel
theorem dX7_digest_130 : decode cX7_digest 130 = .ok (.iconst 0, 1) := by decide +kernel
theorem dX7_digest_131 : decode cX7_digest 131 = .ok (.istore_n 3, 1) := by decide +kernel
theorem dX7_digest_132 : decode cX7_digest 132 = .ok (.iload_n 3, 1) := by decide +kernel
theorem dX7_digest_133 : decode cX7_digest 133 = .ok (.aload_n 0, 1) := by decide +kernel
theorem dX7_digest_134 : decode cX7_digest 134 = .ok (.getfield 30, 3) := by decide +kernel
theorem dX7_digest_137 : decode cX7_digest 137 = .ok (.getfield 120, 3) := by decide +kernel
theorem dX7_digest_140 : decode cX7_digest 140 = .ok (.if_icmp .ge 78, 3) := by decide +kernel
theorem dX7_digest_143 : decode cX7_digest 143 = .ok (.iconst 0, 1) := by decide +kernel
theorem dX7_digest_144 : decode cX7_digest 144 = .ok (.istore 4, 2) := by decide +kernel
theorem dX7_digest_146 : decode cX7_digest 146 = .ok (.iload 4, 2) := by decide +kernel
theorem dX7_digest_148 : decode cX7_digest 148 = .ok (.iconst 4, 1) := by decide +kernel
theorem dX7_digest_149 : decode cX7_digest 149 = .ok (.if_icmp .gt 24, 3) := by decide +kernel
theorem dX7_digest_152 : decode cX7_digest 152 = .ok (.lload_n 1, 1) := by decide +kernel
theorem dX7_digest_153 : decode cX7_digest 153 = .ok (.ldc2_w 227, 3) := by decide +kernel
theorem dX7_digest_156 : decode cX7_digest 156 = .ok (.lmul, 1) := by decide +kernel
theorem dX7_digest_157 : decode cX7_digest 157 = .ok (.aload_n 0, 1) := by decide +kernel
theorem dX7_digest_158 : decode cX7_digest 158 = .ok (.iload_n 3, 1) := by decide +kernel
theorem dX7_digest_159 : decode cX7_digest 159 = .ok (.iload 4, 2) := by decide +kernel
theorem dX7_digest_161 : decode cX7_digest 161 = .ok (.invokevirtual 238, 3) := by decide +kernel
theorem dX7_digest_164 : decode cX7_digest 164 = .ok (.i2l, 1) := by decide +kernel
theorem dX7_digest_165 : decode cX7_digest 165 = .ok (.ladd, 1) := by decide +kernel
theorem dX7_digest_166 : decode cX7_digest 166 = .ok (.lstore_n 1, 1) := by decide +kernel
theorem dX7_digest_167 : decode cX7_digest 167 = .ok (.iinc 4 1, 3) := by decide +kernel
theorem dX7_digest_170 : decode cX7_digest 170 = .ok (.goto (-24), 3) := by decide +kernel
theorem dX7_digest_173 : decode cX7_digest 173 = .ok (.iconst 0, 1) := by decide +kernel
theorem dX7_digest_174 : decode cX7_digest 174 = .ok (.istore 4, 2) := by decide +kernel
theorem dX7_digest_176 : decode cX7_digest 176 = .ok (.iload 4, 2) := by decide +kernel
theorem dX7_digest_178 : decode cX7_digest 178 = .ok (.aload_n 0, 1) := by decide +kernel
theorem dX7_digest_179 : decode cX7_digest 179 = .ok (.getfield 20, 3) := by decide +kernel
theorem dX7_digest_182 : decode cX7_digest 182 = .ok (.getfield 54, 3) := by decide +kernel
theorem dX7_digest_185 : decode cX7_digest 185 = .ok (.if_icmp .ge 27, 3) := by decide +kernel
theorem dX7_digest_188 : decode cX7_digest 188 = .ok (.lload_n 1, 1) := by decide +kernel
theorem dX7_digest_189 : decode cX7_digest 189 = .ok (.ldc2_w 227, 3) := by decide +kernel
theorem dX7_digest_192 : decode cX7_digest 192 = .ok (.lmul, 1) := by decide +kernel
theorem dX7_digest_193 : decode cX7_digest 193 = .ok (.aload_n 0, 1) := by decide +kernel
theorem dX7_digest_194 : decode cX7_digest 194 = .ok (.getfield 10, 3) := by decide +kernel
theorem dX7_digest_197 : decode cX7_digest 197 = .ok (.iload_n 3, 1) := by decide +kernel
theorem dX7_digest_198 : decode cX7_digest 198 = .ok (.iload 4, 2) := by decide +kernel
theorem dX7_digest_200 : decode cX7_digest 200 = .ok (.invokevirtual 213, 3) := by decide +kernel
theorem dX7_digest_203 : decode cX7_digest 203 = .ok (.i2l, 1) := by decide +kernel
theorem dX7_digest_204 : decode cX7_digest 204 = .ok (.ladd, 1) := by decide +kernel
theorem dX7_digest_205 : decode cX7_digest 205 = .ok (.lstore_n 1, 1) := by decide +kernel
theorem dX7_digest_206 : decode cX7_digest 206 = .ok (.iinc 4 1, 3) := by decide +kernel
theorem dX7_digest_209 : decode cX7_digest 209 = .ok (.goto (-33), 3) := by decide +kernel
theorem dX7_digest_212 : decode cX7_digest 212 = .ok (.iinc 3 1, 3) := by decide +kernel
theorem dX7_digest_215 : decode cX7_digest 215 = .ok (.goto (-83), 3) := by decide +kernel
theorem dX7_digest_218 : decode cX7_digest 218 = .ok (.iconst 0, 1) := by decide +kernel
theorem dX7_digest_219 : decode cX7_digest 219 = .ok (.istore_n 3, 1) := by decide +kernel
theorem dX7_digest_220 : decode cX7_digest 220 = .ok (.iload_n 3, 1) := by decide +kernel
theorem dX7_digest_221 : decode cX7_digest 221 = .ok (.aload_n 0, 1) := by decide +kernel
theorem dX7_digest_222 : decode cX7_digest 222 = .ok (.getfield 35, 3) := by decide +kernel
theorem dX7_digest_225 : decode cX7_digest 225 = .ok (.getfield 157, 3) := by decide +kernel
theorem dX7_digest_228 : decode cX7_digest 228 = .ok (.if_icmp .ge 40, 3) := by decide +kernel
theorem dX7_digest_231 : decode cX7_digest 231 = .ok (.iconst 0, 1) := by decide +kernel
theorem dX7_digest_232 : decode cX7_digest 232 = .ok (.istore 4, 2) := by decide +kernel
theorem dX7_digest_234 : decode cX7_digest 234 = .ok (.iload 4, 2) := by decide +kernel
theorem dX7_digest_236 : decode cX7_digest 236 = .ok (.bipush 7, 2) := by decide +kernel
theorem dX7_digest_238 : decode cX7_digest 238 = .ok (.if_icmp .gt 24, 3) := by decide +kernel
theorem dX7_digest_241 : decode cX7_digest 241 = .ok (.lload_n 1, 1) := by decide +kernel
theorem dX7_digest_242 : decode cX7_digest 242 = .ok (.ldc2_w 227, 3) := by decide +kernel
theorem dX7_digest_245 : decode cX7_digest 245 = .ok (.lmul, 1) := by decide +kernel
theorem dX7_digest_246 : decode cX7_digest 246 = .ok (.aload_n 0, 1) := by decide +kernel
theorem dX7_digest_247 : decode cX7_digest 247 = .ok (.iload_n 3, 1) := by decide +kernel
theorem dX7_digest_248 : decode cX7_digest 248 = .ok (.iload 4, 2) := by decide +kernel
theorem dX7_digest_250 : decode cX7_digest 250 = .ok (.invokevirtual 241, 3) := by decide +kernel
theorem dX7_digest_253 : decode cX7_digest 253 = .ok (.i2l, 1) := by decide +kernel
theorem dX7_digest_254 : decode cX7_digest 254 = .ok (.ladd, 1) := by decide +kernel
theorem dX7_digest_255 : decode cX7_digest 255 = .ok (.lstore_n 1, 1) := by decide +kernel
theorem dX7_digest_256 : decode cX7_digest 256 = .ok (.iinc 4 1, 3) := by decide +kernel
theorem dX7_digest_259 : decode cX7_digest 259 = .ok (.goto (-25), 3) := by decide +kernel
theorem dX7_digest_262 : decode cX7_digest 262 = .ok (.iinc 3 1, 3) := by decide +kernel
theorem dX7_digest_265 : decode cX7_digest 265 = .ok (.goto (-45), 3) := by decide +kernel
theorem dX7_digest_268 : decode cX7_digest 268 = .ok (.iconst 0, 1) := by decide +kernel
theorem dX7_digest_269 : decode cX7_digest 269 = .ok (.istore_n 3, 1) := by decide +kernel
theorem dX7_digest_270 : decode cX7_digest 270 = .ok (.iload_n 3, 1) := by decide +kernel
theorem dX7_digest_271 : decode cX7_digest 271 = .ok (.bipush 8, 2) := by decide +kernel
theorem dX7_digest_273 : decode cX7_digest 273 = .ok (.if_icmp .ge 22, 3) := by decide +kernel
theorem dX7_digest_276 : decode cX7_digest 276 = .ok (.lload_n 1, 1) := by decide +kernel
theorem dX7_digest_277 : decode cX7_digest 277 = .ok (.ldc2_w 227, 3) := by decide +kernel
theorem dX7_digest_280 : decode cX7_digest 280 = .ok (.lmul, 1) := by decide +kernel
theorem dX7_digest_281 : decode cX7_digest 281 = .ok (.aload_n 0, 1) := by decide +kernel
theorem dX7_digest_282 : decode cX7_digest 282 = .ok (.iload_n 3, 1) := by decide +kernel
theorem dX7_digest_283 : decode cX7_digest 283 = .ok (.invokevirtual 244, 3) := by decide +kernel
theorem dX7_digest_286 : decode cX7_digest 286 = .ok (.i2l, 1) := by decide +kernel
theorem dX7_digest_287 : decode cX7_digest 287 = .ok (.ladd, 1) := by decide +kernel
theorem dX7_digest_288 : decode cX7_digest 288 = .ok (.lstore_n 1, 1) := by decide +kernel
theorem dX7_digest_289 : decode cX7_digest 289 = .ok (.iinc 3 1, 3) := by decide +kernel
theorem dX7_digest_292 : decode cX7_digest 292 = .ok (.goto (-22), 3) := by decide +kernel
theorem dX7_digest_295 : decode cX7_digest 295 = .ok (.lload_n 1, 1) := by decide +kernel
theorem dX7_digest_296 : decode cX7_digest 296 = .ok (.lreturn, 1) := by decide +kernel
theorem dX7_needIndex_0 : decode cX7_needIndex 0 = .ok (.iload_n 0, 1) := by decide +kernel
theorem dX7_needIndex_1 : decode cX7_needIndex 1 = .ok (.iload_n 1, 1) := by decide +kernel
theorem dX7_needIndex_2 : decode cX7_needIndex 2 = .ok (.invokestatic 247, 3) := by decide +kernel
theorem dX7_needIndex_5 : decode cX7_needIndex 5 = .ok (.ifCond .ne 13, 3) := by decide +kernel
theorem dX7_needIndex_8 : decode cX7_needIndex 8 = .ok (.new 250, 3) := by decide +kernel
theorem dX7_needIndex_11 : decode cX7_needIndex 11 = .ok (.dup, 1) := by decide +kernel
theorem dX7_needIndex_12 : decode cX7_needIndex 12 = .ok (.ldc 252, 2) := by decide +kernel
theorem dX7_needIndex_14 : decode cX7_needIndex 14 = .ok (.invokespecial 254, 3) := by decide +kernel
theorem dX7_needIndex_17 : decode cX7_needIndex 17 = .ok (.athrow, 1) := by decide +kernel
theorem dX7_needIndex_18 : decode cX7_needIndex 18 = .ok (.return_, 1) := by decide +kernel
theorem dX7_needArgument_0 : decode cX7_needArgument 0 = .ok (.iload_n 0, 1) := by decide +kernel
theorem dX7_needArgument_1 : decode cX7_needArgument 1 = .ok (.ifCond .ne 14, 3) := by decide +kernel
theorem dX7_needArgument_4 : decode cX7_needArgument 4 = .ok (.new 257, 3) := by decide +kernel
theorem dX7_needArgument_7 : decode cX7_needArgument 7 = .ok (.dup, 1) := by decide +kernel
theorem dX7_needArgument_8 : decode cX7_needArgument 8 = .ok (.ldc_w 259, 3) := by decide +kernel
theorem dX7_needArgument_11 : decode cX7_needArgument 11 = .ok (.invokespecial 261, 3) := by decide +kernel
theorem dX7_needArgument_14 : decode cX7_needArgument 14 = .ok (.athrow, 1) := by decide +kernel
theorem dX7_needArgument_15 : decode cX7_needArgument 15 = .ok (.return_, 1) := by decide +kernel
theorem dX7_needState_0 : decode cX7_needState 0 = .ok (.iload_n 0, 1) := by decide +kernel
theorem dX7_needState_1 : decode cX7_needState 1 = .ok (.ifCond .ne 14, 3) := by decide +kernel
theorem dX7_needState_4 : decode cX7_needState 4 = .ok (.new 262, 3) := by decide +kernel
theorem dX7_needState_7 : decode cX7_needState 7 = .ok (.dup, 1) := by decide +kernel
theorem dX7_needState_8 : decode cX7_needState 8 = .ok (.ldc_w 264, 3) := by decide +kernel
theorem dX7_needState_11 : decode cX7_needState 11 = .ok (.invokespecial 266, 3) := by decide +kernel
theorem dX7_needState_14 : decode cX7_needState 14 = .ok (.athrow, 1) := by decide +kernel
theorem dX7_needState_15 : decode cX7_needState 15 = .ok (.return_, 1) := by decide +kernel
theorem dX7_isWithin_0 : decode cX7_isWithin 0 = .ok (.iload_n 0, 1) := by decide +kernel
theorem dX7_isWithin_1 : decode cX7_isWithin 1 = .ok (.iload_n 1, 1) := by decide +kernel
theorem dX7_isWithin_2 : decode cX7_isWithin 2 = .ok (.if_icmp .lt 12, 3) := by decide +kernel
theorem dX7_isWithin_5 : decode cX7_isWithin 5 = .ok (.iload_n 0, 1) := by decide +kernel
theorem dX7_isWithin_6 : decode cX7_isWithin 6 = .ok (.iload_n 2, 1) := by decide +kernel
theorem dX7_isWithin_7 : decode cX7_isWithin 7 = .ok (.if_icmp .gt 7, 3) := by decide +kernel
theorem dX7_isWithin_10 : decode cX7_isWithin 10 = .ok (.iconst 1, 1) := by decide +kernel
theorem dX7_isWithin_11 : decode cX7_isWithin 11 = .ok (.goto 4, 3) := by decide +kernel
theorem dX7_isWithin_14 : decode cX7_isWithin 14 = .ok (.iconst 0, 1) := by decide +kernel
theorem dX7_isWithin_15 : decode cX7_isWithin 15 = .ok (.ireturn, 1) := by decide +kernel
theorem dX7_isIndex_0 : decode cX7_isIndex 0 = .ok (.iload_n 0, 1) := by decide +kernel
theorem dX7_isIndex_1 : decode cX7_isIndex 1 = .ok (.iconst 0, 1) := by decide +kernel
theorem dX7_isIndex_2 : decode cX7_isIndex 2 = .ok (.iload_n 1, 1) := by decide +kernel
theorem dX7_isIndex_3 : decode cX7_isIndex 3 = .ok (.iconst 1, 1) := by decide +kernel
theorem dX7_isIndex_4 : decode cX7_isIndex 4 = .ok (.isub, 1) := by decide +kernel
theorem dX7_isIndex_5 : decode cX7_isIndex 5 = .ok (.invokestatic 36, 3) := by decide +kernel
theorem dX7_isIndex_8 : decode cX7_isIndex 8 = .ok (.ireturn, 1) := by decide +kernel
theorem dX7_isPartOf_0 : decode cX7_isPartOf 0 = .ok (.iload_n 0, 1) := by decide +kernel
theorem dX7_isPartOf_1 : decode cX7_isPartOf 1 = .ok (.iload_n 1, 1) := by decide +kernel
theorem dX7_isPartOf_2 : decode cX7_isPartOf 2 = .ok (.iconst (-1), 1) := by decide +kernel
theorem dX7_isPartOf_3 : decode cX7_isPartOf 3 = .ok (.ixor, 1) := by decide +kernel
theorem dX7_isPartOf_4 : decode cX7_isPartOf 4 = .ok (.iand, 1) := by decide +kernel
theorem dX7_isPartOf_5 : decode cX7_isPartOf 5 = .ok (.ifCond .ne 7, 3) := by decide +kernel
theorem dX7_isPartOf_8 : decode cX7_isPartOf 8 = .ok (.iconst 1, 1) := by decide +kernel
theorem dX7_isPartOf_9 : decode cX7_isPartOf 9 = .ok (.goto 4, 3) := by decide +kernel
theorem dX7_isPartOf_12 : decode cX7_isPartOf 12 = .ok (.iconst 0, 1) := by decide +kernel
theorem dX7_isPartOf_13 : decode cX7_isPartOf 13 = .ok (.ireturn, 1) := by decide +kernel
theorem dX7_has_0 : decode cX7_has 0 = .ok (.lload_n 0, 1) := by decide +kernel
theorem dX7_has_1 : decode cX7_has 1 = .ok (.iload_n 2, 1) := by decide +kernel
theorem dX7_has_2 : decode cX7_has 2 = .ok (.lshr, 1) := by decide +kernel
theorem dX7_has_3 : decode cX7_has 3 = .ok (.lconst 1, 1) := by decide +kernel
theorem dX7_has_4 : decode cX7_has 4 = .ok (.land, 1) := by decide +kernel
theorem dX7_has_5 : decode cX7_has 5 = .ok (.lconst 0, 1) := by decide +kernel
theorem dX7_has_6 : decode cX7_has 6 = .ok (.lcmp, 1) := by decide +kernel
theorem dX7_has_7 : decode cX7_has 7 = .ok (.ifCond .eq 7, 3) := by decide +kernel
theorem dX7_has_10 : decode cX7_has 10 = .ok (.iconst 1, 1) := by decide +kernel
theorem dX7_has_11 : decode cX7_has 11 = .ok (.goto 4, 3) := by decide +kernel
theorem dX7_has_14 : decode cX7_has 14 = .ok (.iconst 0, 1) := by decide +kernel
theorem dX7_has_15 : decode cX7_has 15 = .ok (.ireturn, 1) := by decide +kernel
theorem dX7_weigh_0 : decode cX7_weigh 0 = .ok (.iconst 0, 1) := by decide +kernel
theorem dX7_weigh_1 : decode cX7_weigh 1 = .ok (.istore_n 3, 1) := by decide +kernel
theorem dX7_weigh_2 : decode cX7_weigh 2 = .ok (.iconst 0, 1) := by decide +kernel
theorem dX7_weigh_3 : decode cX7_weigh 3 = .ok (.istore 4, 2) := by decide +kernel
theorem dX7_weigh_5 : decode cX7_weigh 5 = .ok (.iload 4, 2) := by decide +kernel
theorem dX7_weigh_7 : decode cX7_weigh 7 = .ok (.aload_n 1, 1) := by decide +kernel
theorem dX7_weigh_8 : decode cX7_weigh 8 = .ok (.arraylength, 1) := by decide +kernel
theorem dX7_weigh_9 : decode cX7_weigh 9 = .ok (.if_icmp .ge 31, 3) := by decide +kernel
theorem dX7_weigh_12 : decode cX7_weigh 12 = .ok (.iload_n 0, 1) := by decide +kernel
theorem dX7_weigh_13 : decode cX7_weigh 13 = .ok (.i2l, 1) := by decide +kernel
theorem dX7_weigh_14 : decode cX7_weigh 14 = .ok (.iload 4, 2) := by decide +kernel
theorem dX7_weigh_16 : decode cX7_weigh 16 = .ok (.invokestatic 267, 3) := by decide +kernel
theorem dX7_weigh_19 : decode cX7_weigh 19 = .ok (.ifCond .eq 15, 3) := by decide +kernel
theorem dX7_weigh_22 : decode cX7_weigh 22 = .ok (.iload_n 3, 1) := by decide +kernel
theorem dX7_weigh_23 : decode cX7_weigh 23 = .ok (.iload 4, 2) := by decide +kernel
theorem dX7_weigh_25 : decode cX7_weigh 25 = .ok (.iload_n 2, 1) := by decide +kernel
theorem dX7_weigh_26 : decode cX7_weigh 26 = .ok (.iadd, 1) := by decide +kernel
theorem dX7_weigh_27 : decode cX7_weigh 27 = .ok (.aload_n 1, 1) := by decide +kernel
theorem dX7_weigh_28 : decode cX7_weigh 28 = .ok (.iload 4, 2) := by decide +kernel
theorem dX7_weigh_30 : decode cX7_weigh 30 = .ok (.iaload, 1) := by decide +kernel
theorem dX7_weigh_31 : decode cX7_weigh 31 = .ok (.imul, 1) := by decide +kernel
theorem dX7_weigh_32 : decode cX7_weigh 32 = .ok (.iadd, 1) := by decide +kernel
theorem dX7_weigh_33 : decode cX7_weigh 33 = .ok (.istore_n 3, 1) := by decide +kernel
theorem dX7_weigh_34 : decode cX7_weigh 34 = .ok (.iinc 4 1, 3) := by decide +kernel
theorem dX7_weigh_37 : decode cX7_weigh 37 = .ok (.goto (-32), 3) := by decide +kernel
theorem dX7_weigh_40 : decode cX7_weigh 40 = .ok (.iload_n 3, 1) := by decide +kernel
theorem dX7_weigh_41 : decode cX7_weigh 41 = .ok (.ireturn, 1) := by decide +kernel
end
section
theorem dX8_init_0 : decode cX8_init 0 = .ok (.aload_n 0, 1) := by decide +kernel
theorem dX8_init_1 : decode cX8_init 1 = .ok (.invokespecial 1, 3) := by decide +kernel
theorem dX8_init_4 : decode cX8_init 4 = .ok (.aload_n 0, 1) := by decide +kernel
theorem dX8_init_5 : decode cX8_init 5 = .ok (.iload_n 1, 1) := by decide +kernel
theorem dX8_init_6 : decode cX8_init 6 = .ok (.putfield 7, 3) := by decide +kernel
theorem dX8_init_9 : decode cX8_init 9 = .ok (.aload_n 0, 1) := by decide +kernel
theorem dX8_init_10 : decode cX8_init 10 = .ok (.iload_n 2, 1) := by decide +kernel
theorem dX8_init_11 : decode cX8_init 11 = .ok (.putfield 13, 3) := by decide +kernel
theorem dX8_init_14 : decode cX8_init 14 = .ok (.aload_n 0, 1) := by decide +kernel
theorem dX8_init_15 : decode cX8_init 15 = .ok (.iload_n 3, 1) := by decide +kernel
theorem dX8_init_16 : decode cX8_init 16 = .ok (.putfield 16, 3) := by decide +kernel
theorem dX8_init_19 : decode cX8_init 19 = .ok (.aload_n 0, 1) := by decide +kernel
theorem dX8_init_20 : decode cX8_init 20 = .ok (.iload 4, 2) := by decide +kernel
theorem dX8_init_22 : decode cX8_init 22 = .ok (.putfield 19, 3) := by decide +kernel
theorem dX8_init_25 : decode cX8_init 25 = .ok (.aload_n 0, 1) := by decide +kernel
theorem dX8_init_26 : decode cX8_init 26 = .ok (.iload 5, 2) := by decide +kernel
theorem dX8_init_28 : decode cX8_init 28 = .ok (.putfield 22, 3) := by decide +kernel
theorem dX8_init_31 : decode cX8_init 31 = .ok (.aload_n 0, 1) := by decide +kernel
theorem dX8_init_32 : decode cX8_init 32 = .ok (.iload 6, 2) := by decide +kernel
theorem dX8_init_34 : decode cX8_init 34 = .ok (.putfield 25, 3) := by decide +kernel
theorem dX8_init_37 : decode cX8_init 37 = .ok (.aload_n 0, 1) := by decide +kernel
theorem dX8_init_38 : decode cX8_init 38 = .ok (.iload 7, 2) := by decide +kernel
theorem dX8_init_40 : decode cX8_init 40 = .ok (.putfield 28, 3) := by decide +kernel
theorem dX8_init_43 : decode cX8_init 43 = .ok (.return_, 1) := by decide +kernel
theorem dX9_init_0 : decode cX9_init 0 = .ok (.aload_n 0, 1) := by decide +kernel
theorem dX9_init_1 : decode cX9_init 1 = .ok (.invokespecial 3, 3) := by decide +kernel
theorem dX9_init_4 : decode cX9_init 4 = .ok (.aload_n 0, 1) := by decide +kernel
theorem dX9_init_5 : decode cX9_init 5 = .ok (.aload_n 1, 1) := by decide +kernel
theorem dX9_init_6 : decode cX9_init 6 = .ok (.putfield 9, 3) := by decide +kernel
theorem dX9_init_9 : decode cX9_init 9 = .ok (.aload_n 0, 1) := by decide +kernel
theorem dX9_init_10 : decode cX9_init 10 = .ok (.iload_n 2, 1) := by decide +kernel
theorem dX9_init_11 : decode cX9_init 11 = .ok (.putfield 15, 3) := by decide +kernel
theorem dX9_init_14 : decode cX9_init 14 = .ok (.aload_n 0, 1) := by decide +kernel
theorem dX9_init_15 : decode cX9_init 15 = .ok (.iload_n 3, 1) := by decide +kernel
theorem dX9_init_16 : decode cX9_init 16 = .ok (.putfield 19, 3) := by decide +kernel
theorem dX9_init_19 : decode cX9_init 19 = .ok (.aload_n 0, 1) := by decide +kernel
theorem dX9_init_20 : decode cX9_init 20 = .ok (.iload 4, 2) := by decide +kernel
theorem dX9_init_22 : decode cX9_init 22 = .ok (.putfield 22, 3) := by decide +kernel
theorem dX9_init_25 : decode cX9_init 25 = .ok (.aload_n 0, 1) := by decide +kernel
theorem dX9_init_26 : decode cX9_init 26 = .ok (.aload 5, 2) := by decide +kernel
theorem dX9_init_28 : decode cX9_init 28 = .ok (.putfield 25, 3) := by decide +kernel
theorem dX9_init_31 : decode cX9_init 31 = .ok (.aload_n 0, 1) := by decide +kernel
theorem dX9_init_32 : decode cX9_init 32 = .ok (.aload_n 1, 1) := by decide +kernel
theorem dX9_init_33 : decode cX9_init 33 = .ok (.getfield 29, 3) := by decide +kernel
theorem dX9_init_36 : decode cX9_init 36 = .ok (.aload_n 1, 1) := by decide +kernel
theorem dX9_init_37 : decode cX9_init 37 = .ok (.getfield 34, 3) := by decide +kernel
theorem dX9_init_40 : decode cX9_init 40 = .ok (.iconst (-1), 1) := by decide +kernel
theorem dX9_init_41 : decode cX9_init 41 = .ok (.ixor, 1) := by decide +kernel
theorem dX9_init_42 : decode cX9_init 42 = .ok (.iand, 1) := by decide +kernel
theorem dX9_init_43 : decode cX9_init 43 = .ok (.putfield 37, 3) := by decide +kernel
theorem dX9_init_46 : decode cX9_init 46 = .ok (.return_, 1) := by decide +kernel
theorem dX9_copy_0 : decode cX9_copy 0 = .ok (.new 10, 3) := by decide +kernel
theorem dX9_copy_3 : decode cX9_copy 3 = .ok (.dup, 1) := by decide +kernel
theorem dX9_copy_4 : decode cX9_copy 4 = .ok (.aload_n 1, 1) := by decide +kernel
theorem dX9_copy_5 : decode cX9_copy 5 = .ok (.aload_n 0, 1) := by decide +kernel
theorem dX9_copy_6 : decode cX9_copy 6 = .ok (.getfield 15, 3) := by decide +kernel
theorem dX9_copy_9 : decode cX9_copy 9 = .ok (.aload_n 0, 1) := by decide +kernel
theorem dX9_copy_10 : decode cX9_copy 10 = .ok (.getfield 19, 3) := by decide +kernel
theorem dX9_copy_13 : decode cX9_copy 13 = .ok (.aload_n 0, 1) := by decide +kernel
theorem dX9_copy_14 : decode cX9_copy 14 = .ok (.getfield 22, 3) := by decide +kernel
theorem dX9_copy_17 : decode cX9_copy 17 = .ok (.aload_n 0, 1) := by decide +kernel
theorem dX9_copy_18 : decode cX9_copy 18 = .ok (.getfield 25, 3) := by decide +kernel
theorem dX9_copy_21 : decode cX9_copy 21 = .ok (.aload_n 0, 1) := by decide +kernel
theorem dX9_copy_22 : decode cX9_copy 22 = .ok (.getfield 37, 3) := by decide +kernel
theorem dX9_copy_25 : decode cX9_copy 25 = .ok (.invokespecial 40, 3) := by decide +kernel
theorem dX9_copy_28 : decode cX9_copy 28 = .ok (.astore_n 2, 1) := by decide +kernel
theorem dX9_copy_29 : decode cX9_copy 29 = .ok (.aload_n 2, 1) := by decide +kernel
theorem dX9_copy_30 : decode cX9_copy 30 = .ok (.aload_n 0, 1) := by decide +kernel
theorem dX9_copy_31 : decode cX9_copy 31 = .ok (.getfield 43, 3) := by decide +kernel
theorem dX9_copy_34 : decode cX9_copy 34 = .ok (.putfield 43, 3) := by decide +kernel
theorem dX9_copy_37 : decode cX9_copy 37 = .ok (.aload_n 2, 1) := by decide +kernel
theorem dX9_copy_38 : decode cX9_copy 38 = .ok (.aload_n 0, 1) := by decide +kernel
theorem dX9_copy_39 : decode cX9_copy 39 = .ok (.getfield 46, 3) := by decide +kernel
theorem dX9_copy_42 : decode cX9_copy 42 = .ok (.putfield 46, 3) := by decide +kernel
theorem dX9_copy_45 : decode cX9_copy 45 = .ok (.aload_n 2, 1) := by decide +kernel
theorem dX9_copy_46 : decode cX9_copy 46 = .ok (.areturn, 1) := by decide +kernel
theorem dX9_init__0 : decode cX9_init_ 0 = .ok (.aload_n 0, 1) := by decide +kernel
theorem dX9_init__1 : decode cX9_init_ 1 = .ok (.invokespecial 3, 3) := by decide +kernel
theorem dX9_init__4 : decode cX9_init_ 4 = .ok (.aload_n 0, 1) := by decide +kernel
theorem dX9_init__5 : decode cX9_init_ 5 = .ok (.aload_n 1, 1) := by decide +kernel
theorem dX9_init__6 : decode cX9_init_ 6 = .ok (.putfield 9, 3) := by decide +kernel
theorem dX9_init__9 : decode cX9_init_ 9 = .ok (.aload_n 0, 1) := by decide +kernel
theorem dX9_init__10 : decode cX9_init_ 10 = .ok (.iload_n 2, 1) := by decide +kernel
theorem dX9_init__11 : decode cX9_init_ 11 = .ok (.putfield 15, 3) := by decide +kernel
theorem dX9_init__14 : decode cX9_init_ 14 = .ok (.aload_n 0, 1) := by decide +kernel
theorem dX9_init__15 : decode cX9_init_ 15 = .ok (.iload_n 3, 1) := by decide +kernel
theorem dX9_init__16 : decode cX9_init_ 16 = .ok (.putfield 19, 3) := by decide +kernel
theorem dX9_init__19 : decode cX9_init_ 19 = .ok (.aload_n 0, 1) := by decide +kernel
theorem dX9_init__20 : decode cX9_init_ 20 = .ok (.iload 4, 2) := by decide +kernel
theorem dX9_init__22 : decode cX9_init_ 22 = .ok (.putfield 22, 3) := by decide +kernel
theorem dX9_init__25 : decode cX9_init_ 25 = .ok (.aload_n 0, 1) := by decide +kernel
theorem dX9_init__26 : decode cX9_init_ 26 = .ok (.aload 5, 2) := by decide +kernel
theorem dX9_init__28 : decode cX9_init_ 28 = .ok (.putfield 25, 3) := by decide +kernel
theorem dX9_init__31 : decode cX9_init_ 31 = .ok (.aload_n 0, 1) := by decide +kernel
theorem dX9_init__32 : decode cX9_init_ 32 = .ok (.iload 6, 2) := by decide +kernel
theorem dX9_init__34 : decode cX9_init_ 34 = .ok (.putfield 37, 3) := by decide +kernel
theorem dX9_init__37 : decode cX9_init_ 37 = .ok (.return_, 1) := by decide +kernel
theorem dX9_isLike_0 : decode cX9_isLike 0 = .ok (.iconst 1, 1) := by decide +kernel
theorem dX9_isLike_1 : decode cX9_isLike 1 = .ok (.istore_n 2, 1) := by decide +kernel
theorem dX9_isLike_2 : decode cX9_isLike 2 = .ok (.iconst 0, 1) := by decide +kernel
theorem dX9_isLike_3 : decode cX9_isLike 3 = .ok (.istore_n 3, 1) := by decide +kernel
theorem dX9_isLike_4 : decode cX9_isLike 4 = .ok (.iload_n 3, 1) := by decide +kernel
theorem dX9_isLike_5 : decode cX9_isLike 5 = .ok (.bipush 8, 2) := by decide +kernel
theorem dX9_isLike_7 : decode cX9_isLike 7 = .ok (.if_icmp .ge 35, 3) := by decide +kernel
theorem dX9_isLike_10 : decode cX9_isLike 10 = .ok (.iload_n 2, 1) := by decide +kernel
theorem dX9_isLike_11 : decode cX9_isLike 11 = .ok (.aload_n 0, 1) := by decide +kernel
theorem dX9_isLike_12 : decode cX9_isLike 12 = .ok (.getfield 25, 3) := by decide +kernel
theorem dX9_isLike_15 : decode cX9_isLike 15 = .ok (.getfield 49, 3) := by decide +kernel
theorem dX9_isLike_18 : decode cX9_isLike 18 = .ok (.iload_n 3, 1) := by decide +kernel
theorem dX9_isLike_19 : decode cX9_isLike 19 = .ok (.iaload, 1) := by decide +kernel
theorem dX9_isLike_20 : decode cX9_isLike 20 = .ok (.aload_n 1, 1) := by decide +kernel
theorem dX9_isLike_21 : decode cX9_isLike 21 = .ok (.getfield 49, 3) := by decide +kernel
theorem dX9_isLike_24 : decode cX9_isLike 24 = .ok (.iload_n 3, 1) := by decide +kernel
theorem dX9_isLike_25 : decode cX9_isLike 25 = .ok (.iaload, 1) := by decide +kernel
theorem dX9_isLike_26 : decode cX9_isLike 26 = .ok (.if_icmp .ne 7, 3) := by decide +kernel
theorem dX9_isLike_29 : decode cX9_isLike 29 = .ok (.iconst 1, 1) := by decide +kernel
theorem dX9_isLike_30 : decode cX9_isLike 30 = .ok (.goto 4, 3) := by decide +kernel
theorem dX9_isLike_33 : decode cX9_isLike 33 = .ok (.iconst 0, 1) := by decide +kernel
theorem dX9_isLike_34 : decode cX9_isLike 34 = .ok (.iand, 1) := by decide +kernel
theorem dX9_isLike_35 : decode cX9_isLike 35 = .ok (.istore_n 2, 1) := by decide +kernel
theorem dX9_isLike_36 : decode cX9_isLike 36 = .ok (.iinc 3 1, 3) := by decide +kernel
theorem dX9_isLike_39 : decode cX9_isLike 39 = .ok (.goto (-35), 3) := by decide +kernel
theorem dX9_isLike_42 : decode cX9_isLike 42 = .ok (.iconst 0, 1) := by decide +kernel
theorem dX9_isLike_43 : decode cX9_isLike 43 = .ok (.istore_n 3, 1) := by decide +kernel
theorem dX9_isLike_44 : decode cX9_isLike 44 = .ok (.iload_n 3, 1) := by decide +kernel
theorem dX9_isLike_45 : decode cX9_isLike 45 = .ok (.bipush 14, 2) := by decide +kernel
theorem dX9_isLike_47 : decode cX9_isLike 47 = .ok (.if_icmp .ge 35, 3) := by decide +kernel
theorem dX9_isLike_50 : decode cX9_isLike 50 = .ok (.iload_n 2, 1) := by decide +kernel
theorem dX9_isLike_51 : decode cX9_isLike 51 = .ok (.aload_n 0, 1) := by decide +kernel
theorem dX9_isLike_52 : decode cX9_isLike 52 = .ok (.getfield 25, 3) := by decide +kernel
theorem dX9_isLike_55 : decode cX9_isLike 55 = .ok (.getfield 55, 3) := by decide +kernel
theorem dX9_isLike_58 : decode cX9_isLike 58 = .ok (.iload_n 3, 1) := by decide +kernel
theorem dX9_isLike_59 : decode cX9_isLike 59 = .ok (.iaload, 1) := by decide +kernel
theorem dX9_isLike_60 : decode cX9_isLike 60 = .ok (.aload_n 1, 1) := by decide +kernel
theorem dX9_isLike_61 : decode cX9_isLike 61 = .ok (.getfield 55, 3) := by decide +kernel
theorem dX9_isLike_64 : decode cX9_isLike 64 = .ok (.iload_n 3, 1) := by decide +kernel
theorem dX9_isLike_65 : decode cX9_isLike 65 = .ok (.iaload, 1) := by decide +kernel
theorem dX9_isLike_66 : decode cX9_isLike 66 = .ok (.if_icmp .ne 7, 3) := by decide +kernel
theorem dX9_isLike_69 : decode cX9_isLike 69 = .ok (.iconst 1, 1) := by decide +kernel
theorem dX9_isLike_70 : decode cX9_isLike 70 = .ok (.goto 4, 3) := by decide +kernel
theorem dX9_isLike_73 : decode cX9_isLike 73 = .ok (.iconst 0, 1) := by decide +kernel
theorem dX9_isLike_74 : decode cX9_isLike 74 = .ok (.iand, 1) := by decide +kernel
theorem dX9_isLike_75 : decode cX9_isLike 75 = .ok (.istore_n 2, 1) := by decide +kernel
theorem dX9_isLike_76 : decode cX9_isLike 76 = .ok (.iinc 3 1, 3) := by decide +kernel
theorem dX9_isLike_79 : decode cX9_isLike 79 = .ok (.goto (-35), 3) := by decide +kernel
theorem dX9_isLike_82 : decode cX9_isLike 82 = .ok (.iconst 0, 1) := by decide +kernel
theorem dX9_isLike_83 : decode cX9_isLike 83 = .ok (.istore_n 3, 1) := by decide +kernel
theorem dX9_isLike_84 : decode cX9_isLike 84 = .ok (.iload_n 3, 1) := by decide +kernel
theorem dX9_isLike_85 : decode cX9_isLike 85 = .ok (.bipush 6, 2) := by decide +kernel
theorem dX9_isLike_87 : decode cX9_isLike 87 = .ok (.if_icmp .ge 46, 3) := by decide +kernel
theorem dX9_isLike_90 : decode cX9_isLike 90 = .ok (.iload_n 2, 1) := by decide +kernel
theorem dX9_isLike_91 : decode cX9_isLike 91 = .ok (.aload_n 0, 1) := by decide +kernel
theorem dX9_isLike_92 : decode cX9_isLike 92 = .ok (.getfield 37, 3) := by decide +kernel
theorem dX9_isLike_95 : decode cX9_isLike 95 = .ok (.iload_n 3, 1) := by decide +kernel
theorem dX9_isLike_96 : decode cX9_isLike 96 = .ok (.invokestatic 58, 3) := by decide +kernel
theorem dX9_isLike_99 : decode cX9_isLike 99 = .ok (.ifCond .eq 21, 3) := by decide +kernel
theorem dX9_isLike_102 : decode cX9_isLike 102 = .ok (.aload_n 0, 1) := by decide +kernel
theorem dX9_isLike_103 : decode cX9_isLike 103 = .ok (.getfield 25, 3) := by decide +kernel
theorem dX9_isLike_106 : decode cX9_isLike 106 = .ok (.getfield 62, 3) := by decide +kernel
theorem dX9_isLike_109 : decode cX9_isLike 109 = .ok (.iload_n 3, 1) := by decide +kernel
theorem dX9_isLike_110 : decode cX9_isLike 110 = .ok (.iaload, 1) := by decide +kernel
theorem dX9_isLike_111 : decode cX9_isLike 111 = .ok (.aload_n 1, 1) := by decide +kernel
theorem dX9_isLike_112 : decode cX9_isLike 112 = .ok (.getfield 62, 3) := by decide +kernel
theorem dX9_isLike_115 : decode cX9_isLike 115 = .ok (.iload_n 3, 1) := by decide +kernel
theorem dX9_isLike_116 : decode cX9_isLike 116 = .ok (.iaload, 1) := by decide +kernel
theorem dX9_isLike_117 : decode cX9_isLike 117 = .ok (.if_icmp .ne 7, 3) := by decide +kernel
theorem dX9_isLike_120 : decode cX9_isLike 120 = .ok (.iconst 1, 1) := by decide +kernel
theorem dX9_isLike_121 : decode cX9_isLike 121 = .ok (.goto 4, 3) := by decide +kernel
theorem dX9_isLike_124 : decode cX9_isLike 124 = .ok (.iconst 0, 1) := by decide +kernel
theorem dX9_isLike_125 : decode cX9_isLike 125 = .ok (.iand, 1) := by decide +kernel
theorem dX9_isLike_126 : decode cX9_isLike 126 = .ok (.istore_n 2, 1) := by decide +kernel
theorem dX9_isLike_127 : decode cX9_isLike 127 = .ok (.iinc 3 1, 3) := by decide +kernel
theorem dX9_isLike_130 : decode cX9_isLike 130 = .ok (.goto (-46), 3) := by decide +kernel
theorem dX9_isLike_133 : decode cX9_isLike 133 = .ok (.iload_n 2, 1) := by decide +kernel
theorem dX9_isLike_134 : decode cX9_isLike 134 = .ok (.ireturn, 1) := by decide +kernel
theorem dX9_worth_0 : decode cX9_worth 0 = .ok (.aload_n 0, 1) := by decide +kernel
theorem dX9_worth_1 : decode cX9_worth 1 = .ok (.getfield 9, 3) := by decide +kernel
theorem dX9_worth_4 : decode cX9_worth 4 = .ok (.getfield 65, 3) := by decide +kernel
theorem dX9_worth_7 : decode cX9_worth 7 = .ok (.aload_n 0, 1) := by decide +kernel
theorem dX9_worth_8 : decode cX9_worth 8 = .ok (.getfield 43, 3) := by decide +kernel
theorem dX9_worth_11 : decode cX9_worth 11 = .ok (.iconst 1, 1) := by decide +kernel
theorem dX9_worth_12 : decode cX9_worth 12 = .ok (.iadd, 1) := by decide +kernel
theorem dX9_worth_13 : decode cX9_worth 13 = .ok (.imul, 1) := by decide +kernel
theorem dX9_worth_14 : decode cX9_worth 14 = .ok (.bipush 10, 2) := by decide +kernel
theorem dX9_worth_16 : decode cX9_worth 16 = .ok (.imul, 1) := by decide +kernel
theorem dX9_worth_17 : decode cX9_worth 17 = .ok (.aload_n 0, 1) := by decide +kernel
theorem dX9_worth_18 : decode cX9_worth 18 = .ok (.getfield 9, 3) := by decide +kernel
theorem dX9_worth_21 : decode cX9_worth 21 = .ok (.getfield 68, 3) := by decide +kernel
theorem dX9_worth_24 : decode cX9_worth 24 = .ok (.idiv, 1) := by decide +kernel
theorem dX9_worth_25 : decode cX9_worth 25 = .ok (.ireturn, 1) := by decide +kernel
theorem dX10_init_0 : decode cX10_init 0 = .ok (.aload_n 0, 1) := by decide +kernel
theorem dX10_init_1 : decode cX10_init 1 = .ok (.invokespecial 3, 3) := by decide +kernel
theorem dX10_init_4 : decode cX10_init 4 = .ok (.aload_n 0, 1) := by decide +kernel
theorem dX10_init_5 : decode cX10_init 5 = .ok (.new 9, 3) := by decide +kernel
theorem dX10_init_8 : decode cX10_init 8 = .ok (.dup, 1) := by decide +kernel
theorem dX10_init_9 : decode cX10_init 9 = .ok (.invokespecial 11, 3) := by decide +kernel
theorem dX10_init_12 : decode cX10_init 12 = .ok (.putfield 12, 3) := by decide +kernel
theorem dX10_init_15 : decode cX10_init 15 = .ok (.aload_n 0, 1) := by decide +kernel
theorem dX10_init_16 : decode cX10_init 16 = .ok (.bipush 8, 2) := by decide +kernel
theorem dX10_init_18 : decode cX10_init 18 = .ok (.newarray .int, 2) := by decide +kernel
theorem dX10_init_20 : decode cX10_init 20 = .ok (.putfield 18, 3) := by decide +kernel
theorem dX10_init_23 : decode cX10_init 23 = .ok (.aload_n 0, 1) := by decide +kernel
theorem dX10_init_24 : decode cX10_init 24 = .ok (.bipush 6, 2) := by decide +kernel
theorem dX10_init_26 : decode cX10_init 26 = .ok (.newarray .int, 2) := by decide +kernel
theorem dX10_init_28 : decode cX10_init 28 = .ok (.putfield 22, 3) := by decide +kernel
theorem dX10_init_31 : decode cX10_init 31 = .ok (.aload_n 0, 1) := by decide +kernel
theorem dX10_init_32 : decode cX10_init 32 = .ok (.new 9, 3) := by decide +kernel
theorem dX10_init_35 : decode cX10_init 35 = .ok (.dup, 1) := by decide +kernel
theorem dX10_init_36 : decode cX10_init 36 = .ok (.invokespecial 11, 3) := by decide +kernel
theorem dX10_init_39 : decode cX10_init 39 = .ok (.putfield 25, 3) := by decide +kernel
theorem dX10_init_42 : decode cX10_init 42 = .ok (.aload_n 0, 1) := by decide +kernel
theorem dX10_init_43 : decode cX10_init 43 = .ok (.new 9, 3) := by decide +kernel
theorem dX10_init_46 : decode cX10_init 46 = .ok (.dup, 1) := by decide +kernel
theorem dX10_init_47 : decode cX10_init 47 = .ok (.invokespecial 11, 3) := by decide +kernel
theorem dX10_init_50 : decode cX10_init 50 = .ok (.putfield 28, 3) := by decide +kernel
theorem dX10_init_53 : decode cX10_init 53 = .ok (.aload_n 0, 1) := by decide +kernel
theorem dX10_init_54 : decode cX10_init 54 = .ok (.new 9, 3) := by decide +kernel
theorem dX10_init_57 : decode cX10_init 57 = .ok (.dup, 1) := by decide +kernel
theorem dX10_init_58 : decode cX10_init 58 = .ok (.invokespecial 11, 3) := by decide +kernel
theorem dX10_init_61 : decode cX10_init 61 = .ok (.putfield 31, 3) := by decide +kernel
theorem dX10_init_64 : decode cX10_init 64 = .ok (.return_, 1) := by decide +kernel
theorem dX10_copy_0 : decode cX10_copy 0 = .ok (.new 13, 3) := by decide +kernel
theorem dX10_copy_3 : decode cX10_copy 3 = .ok (.dup, 1) := by decide +kernel
theorem dX10_copy_4 : decode cX10_copy 4 = .ok (.invokespecial 34, 3) := by decide +kernel
theorem dX10_copy_7 : decode cX10_copy 7 = .ok (.astore_n 1, 1) := by decide +kernel
theorem dX10_copy_8 : decode cX10_copy 8 = .ok (.aload_n 0, 1) := by decide +kernel
theorem dX10_copy_9 : decode cX10_copy 9 = .ok (.getfield 12, 3) := by decide +kernel
theorem dX10_copy_12 : decode cX10_copy 12 = .ok (.invokevirtual 35, 3) := by decide +kernel
theorem dX10_copy_15 : decode cX10_copy 15 = .ok (.astore_n 2, 1) := by decide +kernel
theorem dX10_copy_16 : decode cX10_copy 16 = .ok (.aload_n 2, 1) := by decide +kernel
theorem dX10_copy_17 : decode cX10_copy 17 = .ok (.invokeinterface 39 1, 5) := by decide +kernel
theorem dX10_copy_22 : decode cX10_copy 22 = .ok (.ifCond .eq 59, 3) := by decide +kernel
theorem dX10_copy_25 : decode cX10_copy 25 = .ok (.aload_n 2, 1) := by decide +kernel
theorem dX10_copy_26 : decode cX10_copy 26 = .ok (.invokeinterface 45 1, 5) := by decide +kernel
theorem dX10_copy_31 : decode cX10_copy 31 = .ok (.checkcast 49, 3) := by decide +kernel
theorem dX10_copy_34 : decode cX10_copy 34 = .ok (.astore_n 3, 1) := by decide +kernel
theorem dX10_copy_35 : decode cX10_copy 35 = .ok (.aload_n 1, 1) := by decide +kernel
theorem dX10_copy_36 : decode cX10_copy 36 = .ok (.getfield 12, 3) := by decide +kernel
theorem dX10_copy_39 : decode cX10_copy 39 = .ok (.new 49, 3) := by decide +kernel
theorem dX10_copy_42 : decode cX10_copy 42 = .ok (.dup, 1) := by decide +kernel
theorem dX10_copy_43 : decode cX10_copy 43 = .ok (.aload_n 3, 1) := by decide +kernel
theorem dX10_copy_44 : decode cX10_copy 44 = .ok (.getfield 51, 3) := by decide +kernel
theorem dX10_copy_47 : decode cX10_copy 47 = .ok (.aload_n 3, 1) := by decide +kernel
theorem dX10_copy_48 : decode cX10_copy 48 = .ok (.getfield 55, 3) := by decide +kernel
theorem dX10_copy_51 : decode cX10_copy 51 = .ok (.aload_n 3, 1) := by decide +kernel
theorem dX10_copy_52 : decode cX10_copy 52 = .ok (.getfield 58, 3) := by decide +kernel
theorem dX10_copy_55 : decode cX10_copy 55 = .ok (.aload_n 3, 1) := by decide +kernel
theorem dX10_copy_56 : decode cX10_copy 56 = .ok (.getfield 60, 3) := by decide +kernel
theorem dX10_copy_59 : decode cX10_copy 59 = .ok (.aload_n 3, 1) := by decide +kernel
theorem dX10_copy_60 : decode cX10_copy 60 = .ok (.getfield 63, 3) := by decide +kernel
theorem dX10_copy_63 : decode cX10_copy 63 = .ok (.aload_n 3, 1) := by decide +kernel
theorem dX10_copy_64 : decode cX10_copy 64 = .ok (.getfield 66, 3) := by decide +kernel
theorem dX10_copy_67 : decode cX10_copy 67 = .ok (.aload_n 3, 1) := by decide +kernel
theorem dX10_copy_68 : decode cX10_copy 68 = .ok (.getfield 69, 3) := by decide +kernel
theorem dX10_copy_71 : decode cX10_copy 71 = .ok (.invokespecial 72, 3) := by decide +kernel
theorem dX10_copy_74 : decode cX10_copy 74 = .ok (.invokevirtual 75, 3) := by decide +kernel
theorem dX10_copy_77 : decode cX10_copy 77 = .ok (.pop, 1) := by decide +kernel
theorem dX10_copy_78 : decode cX10_copy 78 = .ok (.goto (-62), 3) := by decide +kernel
theorem dX10_copy_81 : decode cX10_copy 81 = .ok (.aload_n 0, 1) := by decide +kernel
theorem dX10_copy_82 : decode cX10_copy 82 = .ok (.getfield 18, 3) := by decide +kernel
theorem dX10_copy_85 : decode cX10_copy 85 = .ok (.iconst 0, 1) := by decide +kernel
theorem dX10_copy_86 : decode cX10_copy 86 = .ok (.aload_n 1, 1) := by decide +kernel
theorem dX10_copy_87 : decode cX10_copy 87 = .ok (.getfield 18, 3) := by decide +kernel
theorem dX10_copy_90 : decode cX10_copy 90 = .ok (.iconst 0, 1) := by decide +kernel
theorem dX10_copy_91 : decode cX10_copy 91 = .ok (.bipush 8, 2) := by decide +kernel
theorem dX10_copy_93 : decode cX10_copy 93 = .ok (.invokestatic 79, 3) := by decide +kernel
theorem dX10_copy_96 : decode cX10_copy 96 = .ok (.aload_n 0, 1) := by decide +kernel
theorem dX10_copy_97 : decode cX10_copy 97 = .ok (.getfield 22, 3) := by decide +kernel
theorem dX10_copy_100 : decode cX10_copy 100 = .ok (.iconst 0, 1) := by decide +kernel
theorem dX10_copy_101 : decode cX10_copy 101 = .ok (.aload_n 1, 1) := by decide +kernel
theorem dX10_copy_102 : decode cX10_copy 102 = .ok (.getfield 22, 3) := by decide +kernel
theorem dX10_copy_105 : decode cX10_copy 105 = .ok (.iconst 0, 1) := by decide +kernel
theorem dX10_copy_106 : decode cX10_copy 106 = .ok (.bipush 6, 2) := by decide +kernel
theorem dX10_copy_108 : decode cX10_copy 108 = .ok (.invokestatic 79, 3) := by decide +kernel
theorem dX10_copy_111 : decode cX10_copy 111 = .ok (.aload_n 0, 1) := by decide +kernel
theorem dX10_copy_112 : decode cX10_copy 112 = .ok (.getfield 25, 3) := by decide +kernel
theorem dX10_copy_115 : decode cX10_copy 115 = .ok (.invokevirtual 35, 3) := by decide +kernel
theorem dX10_copy_118 : decode cX10_copy 118 = .ok (.astore_n 2, 1) := by decide +kernel
theorem dX10_copy_119 : decode cX10_copy 119 = .ok (.aload_n 2, 1) := by decide +kernel
theorem dX10_copy_120 : decode cX10_copy 120 = .ok (.invokeinterface 39 1, 5) := by decide +kernel
theorem dX10_copy_125 : decode cX10_copy 125 = .ok (.ifCond .eq 80, 3) := by decide +kernel
theorem dX10_copy_128 : decode cX10_copy 128 = .ok (.aload_n 2, 1) := by decide +kernel
theorem dX10_copy_129 : decode cX10_copy 129 = .ok (.invokeinterface 45 1, 5) := by decide +kernel
theorem dX10_copy_134 : decode cX10_copy 134 = .ok (.checkcast 85, 3) := by decide +kernel
theorem dX10_copy_137 : decode cX10_copy 137 = .ok (.astore_n 3, 1) := by decide +kernel
theorem dX10_copy_138 : decode cX10_copy 138 = .ok (.new 85, 3) := by decide +kernel
theorem dX10_copy_141 : decode cX10_copy 141 = .ok (.dup, 1) := by decide +kernel
theorem dX10_copy_142 : decode cX10_copy 142 = .ok (.invokespecial 87, 3) := by decide +kernel
theorem dX10_copy_145 : decode cX10_copy 145 = .ok (.astore 4, 2) := by decide +kernel
theorem dX10_copy_147 : decode cX10_copy 147 = .ok (.aload 4, 2) := by decide +kernel
theorem dX10_copy_149 : decode cX10_copy 149 = .ok (.aload_n 3, 1) := by decide +kernel
theorem dX10_copy_150 : decode cX10_copy 150 = .ok (.getfield 88, 3) := by decide +kernel
theorem dX10_copy_153 : decode cX10_copy 153 = .ok (.putfield 88, 3) := by decide +kernel
theorem dX10_copy_156 : decode cX10_copy 156 = .ok (.aload 4, 2) := by decide +kernel
theorem dX10_copy_158 : decode cX10_copy 158 = .ok (.aload_n 3, 1) := by decide +kernel
theorem dX10_copy_159 : decode cX10_copy 159 = .ok (.getfield 91, 3) := by decide +kernel
theorem dX10_copy_162 : decode cX10_copy 162 = .ok (.putfield 91, 3) := by decide +kernel
theorem dX10_copy_165 : decode cX10_copy 165 = .ok (.aload 4, 2) := by decide +kernel
theorem dX10_copy_167 : decode cX10_copy 167 = .ok (.aload_n 3, 1) := by decide +kernel
theorem dX10_copy_168 : decode cX10_copy 168 = .ok (.getfield 94, 3) := by decide +kernel
theorem dX10_copy_171 : decode cX10_copy 171 = .ok (.putfield 94, 3) := by decide +kernel
theorem dX10_copy_174 : decode cX10_copy 174 = .ok (.aload 4, 2) := by decide +kernel
theorem dX10_copy_176 : decode cX10_copy 176 = .ok (.aload_n 3, 1) := by decide +kernel
theorem dX10_copy_177 : decode cX10_copy 177 = .ok (.getfield 97, 3) := by decide +kernel
theorem dX10_copy_180 : decode cX10_copy 180 = .ok (.putfield 97, 3) := by decide +kernel
theorem dX10_copy_183 : decode cX10_copy 183 = .ok (.aload 4, 2) := by decide +kernel
theorem dX10_copy_185 : decode cX10_copy 185 = .ok (.aload_n 3, 1) := by decide +kernel
theorem dX10_copy_186 : decode cX10_copy 186 = .ok (.getfield 100, 3) := by decide +kernel
theorem dX10_copy_189 : decode cX10_copy 189 = .ok (.putfield 100, 3) := by decide +kernel
theorem dX10_copy_192 : decode cX10_copy 192 = .ok (.aload_n 1, 1) := by decide +kernel
theorem dX10_copy_193 : decode cX10_copy 193 = .ok (.getfield 25, 3) := by decide +kernel
theorem dX10_copy_196 : decode cX10_copy 196 = .ok (.aload 4, 2) := by decide +kernel
theorem dX10_copy_198 : decode cX10_copy 198 = .ok (.invokevirtual 75, 3) := by decide +kernel
theorem dX10_copy_201 : decode cX10_copy 201 = .ok (.pop, 1) := by decide +kernel
theorem dX10_copy_202 : decode cX10_copy 202 = .ok (.goto (-83), 3) := by decide +kernel
theorem dX10_copy_205 : decode cX10_copy 205 = .ok (.aload_n 0, 1) := by decide +kernel
theorem dX10_copy_206 : decode cX10_copy 206 = .ok (.getfield 28, 3) := by decide +kernel
theorem dX10_copy_209 : decode cX10_copy 209 = .ok (.invokevirtual 35, 3) := by decide +kernel
theorem dX10_copy_212 : decode cX10_copy 212 = .ok (.astore_n 2, 1) := by decide +kernel
theorem dX10_copy_213 : decode cX10_copy 213 = .ok (.aload_n 2, 1) := by decide +kernel
theorem dX10_copy_214 : decode cX10_copy 214 = .ok (.invokeinterface 39 1, 5) := by decide +kernel
theorem dX10_copy_219 : decode cX10_copy 219 = .ok (.ifCond .eq 62, 3) := by decide +kernel
theorem dX10_copy_222 : decode cX10_copy 222 = .ok (.aload_n 2, 1) := by decide +kernel
theorem dX10_copy_223 : decode cX10_copy 223 = .ok (.invokeinterface 45 1, 5) := by decide +kernel
theorem dX10_copy_228 : decode cX10_copy 228 = .ok (.checkcast 103, 3) := by decide +kernel
theorem dX10_copy_231 : decode cX10_copy 231 = .ok (.astore_n 3, 1) := by decide +kernel
theorem dX10_copy_232 : decode cX10_copy 232 = .ok (.new 103, 3) := by decide +kernel
theorem dX10_copy_235 : decode cX10_copy 235 = .ok (.dup, 1) := by decide +kernel
theorem dX10_copy_236 : decode cX10_copy 236 = .ok (.invokespecial 105, 3) := by decide +kernel
theorem dX10_copy_239 : decode cX10_copy 239 = .ok (.astore 4, 2) := by decide +kernel
theorem dX10_copy_241 : decode cX10_copy 241 = .ok (.aload 4, 2) := by decide +kernel
theorem dX10_copy_243 : decode cX10_copy 243 = .ok (.aload_n 3, 1) := by decide +kernel
theorem dX10_copy_244 : decode cX10_copy 244 = .ok (.getfield 106, 3) := by decide +kernel
theorem dX10_copy_247 : decode cX10_copy 247 = .ok (.putfield 106, 3) := by decide +kernel
theorem dX10_copy_250 : decode cX10_copy 250 = .ok (.aload 4, 2) := by decide +kernel
theorem dX10_copy_252 : decode cX10_copy 252 = .ok (.aload_n 3, 1) := by decide +kernel
theorem dX10_copy_253 : decode cX10_copy 253 = .ok (.getfield 109, 3) := by decide +kernel
theorem dX10_copy_256 : decode cX10_copy 256 = .ok (.putfield 109, 3) := by decide +kernel
theorem dX10_copy_259 : decode cX10_copy 259 = .ok (.aload 4, 2) := by decide +kernel
theorem dX10_copy_261 : decode cX10_copy 261 = .ok (.aload_n 3, 1) := by decide +kernel
theorem dX10_copy_262 : decode cX10_copy 262 = .ok (.getfield 112, 3) := by decide +kernel
theorem dX10_copy_265 : decode cX10_copy 265 = .ok (.putfield 112, 3) := by decide +kernel
theorem dX10_copy_268 : decode cX10_copy 268 = .ok (.aload_n 1, 1) := by decide +kernel
theorem dX10_copy_269 : decode cX10_copy 269 = .ok (.getfield 28, 3) := by decide +kernel
theorem dX10_copy_272 : decode cX10_copy 272 = .ok (.aload 4, 2) := by decide +kernel
theorem dX10_copy_274 : decode cX10_copy 274 = .ok (.invokevirtual 75, 3) := by decide +kernel
theorem dX10_copy_277 : decode cX10_copy 277 = .ok (.pop, 1) := by decide +kernel
theorem dX10_copy_278 : decode cX10_copy 278 = .ok (.goto (-65), 3) := by decide +kernel
theorem dX10_copy_281 : decode cX10_copy 281 = .ok (.aload_n 0, 1) := by decide +kernel
theorem dX10_copy_282 : decode cX10_copy 282 = .ok (.getfield 31, 3) := by decide +kernel
theorem dX10_copy_285 : decode cX10_copy 285 = .ok (.invokevirtual 35, 3) := by decide +kernel
theorem dX10_copy_288 : decode cX10_copy 288 = .ok (.astore_n 2, 1) := by decide +kernel
theorem dX10_copy_289 : decode cX10_copy 289 = .ok (.aload_n 2, 1) := by decide +kernel
theorem dX10_copy_290 : decode cX10_copy 290 = .ok (.invokeinterface 39 1, 5) := by decide +kernel
theorem dX10_copy_295 : decode cX10_copy 295 = .ok (.ifCond .eq 45, 3) := by decide +kernel
theorem dX10_copy_298 : decode cX10_copy 298 = .ok (.aload_n 2, 1) := by decide +kernel
theorem dX10_copy_299 : decode cX10_copy 299 = .ok (.invokeinterface 45 1, 5) := by decide +kernel
theorem dX10_copy_304 : decode cX10_copy 304 = .ok (.checkcast 115, 3) := by decide +kernel
theorem dX10_copy_307 : decode cX10_copy 307 = .ok (.astore_n 3, 1) := by decide +kernel
theorem dX10_copy_308 : decode cX10_copy 308 = .ok (.aload_n 1, 1) := by decide +kernel
theorem dX10_copy_309 : decode cX10_copy 309 = .ok (.getfield 31, 3) := by decide +kernel
theorem dX10_copy_312 : decode cX10_copy 312 = .ok (.aload_n 3, 1) := by decide +kernel
theorem dX10_copy_313 : decode cX10_copy 313 = .ok (.aload_n 1, 1) := by decide +kernel
theorem dX10_copy_314 : decode cX10_copy 314 = .ok (.getfield 12, 3) := by decide +kernel
theorem dX10_copy_317 : decode cX10_copy 317 = .ok (.aload_n 3, 1) := by decide +kernel
theorem dX10_copy_318 : decode cX10_copy 318 = .ok (.getfield 117, 3) := by decide +kernel
theorem dX10_copy_321 : decode cX10_copy 321 = .ok (.getfield 51, 3) := by decide +kernel
theorem dX10_copy_324 : decode cX10_copy 324 = .ok (.invokevirtual 121, 3) := by decide +kernel
theorem dX10_copy_327 : decode cX10_copy 327 = .ok (.checkcast 49, 3) := by decide +kernel
theorem dX10_copy_330 : decode cX10_copy 330 = .ok (.invokevirtual 125, 3) := by decide +kernel
theorem dX10_copy_333 : decode cX10_copy 333 = .ok (.invokevirtual 75, 3) := by decide +kernel
theorem dX10_copy_336 : decode cX10_copy 336 = .ok (.pop, 1) := by decide +kernel
theorem dX10_copy_337 : decode cX10_copy 337 = .ok (.goto (-48), 3) := by decide +kernel
theorem dX10_copy_340 : decode cX10_copy 340 = .ok (.aload_n 1, 1) := by decide +kernel
theorem dX10_copy_341 : decode cX10_copy 341 = .ok (.aload_n 0, 1) := by decide +kernel
theorem dX10_copy_342 : decode cX10_copy 342 = .ok (.getfield 129, 3) := by decide +kernel
theorem dX10_copy_345 : decode cX10_copy 345 = .ok (.putfield 129, 3) := by decide +kernel
theorem dX10_copy_348 : decode cX10_copy 348 = .ok (.aload_n 1, 1) := by decide +kernel
theorem dX10_copy_349 : decode cX10_copy 349 = .ok (.aload_n 0, 1) := by decide +kernel
theorem dX10_copy_350 : decode cX10_copy 350 = .ok (.getfield 132, 3) := by decide +kernel
theorem dX10_copy_353 : decode cX10_copy 353 = .ok (.putfield 132, 3) := by decide +kernel
theorem dX10_copy_356 : decode cX10_copy 356 = .ok (.aload_n 1, 1) := by decide +kernel
theorem dX10_copy_357 : decode cX10_copy 357 = .ok (.aload_n 0, 1) := by decide +kernel
theorem dX10_copy_358 : decode cX10_copy 358 = .ok (.getfield 135, 3) := by decide +kernel
theorem dX10_copy_361 : decode cX10_copy 361 = .ok (.putfield 135, 3) := by decide +kernel
theorem dX10_copy_364 : decode cX10_copy 364 = .ok (.aload_n 1, 1) := by decide +kernel
theorem dX10_copy_365 : decode cX10_copy 365 = .ok (.areturn, 1) := by decide +kernel
theorem dX10_print_0 : decode cX10_print 0 = .ok (.iconst 0, 1) := by decide +kernel
theorem dX10_print_1 : decode cX10_print 1 = .ok (.istore_n 3, 1) := by decide +kernel
theorem dX10_print_2 : decode cX10_print 2 = .ok (.iconst 0, 1) := by decide +kernel
theorem dX10_print_3 : decode cX10_print 3 = .ok (.istore 4, 2) := by decide +kernel
theorem dX10_print_5 : decode cX10_print 5 = .ok (.iconst 0, 1) := by decide +kernel
theorem dX10_print_6 : decode cX10_print 6 = .ok (.istore 5, 2) := by decide +kernel
theorem dX10_print_8 : decode cX10_print 8 = .ok (.iconst 0, 1) := by decide +kernel
theorem dX10_print_9 : decode cX10_print 9 = .ok (.istore 6, 2) := by decide +kernel
theorem dX10_print_11 : decode cX10_print 11 = .ok (.iload 6, 2) := by decide +kernel
theorem dX10_print_13 : decode cX10_print 13 = .ok (.bipush 8, 2) := by decide +kernel
theorem dX10_print_15 : decode cX10_print 15 = .ok (.if_icmp .ge 40, 3) := by decide +kernel
theorem dX10_print_18 : decode cX10_print 18 = .ok (.iload_n 3, 1) := by decide +kernel
theorem dX10_print_19 : decode cX10_print 19 = .ok (.aload_n 1, 1) := by decide +kernel
theorem dX10_print_20 : decode cX10_print 20 = .ok (.getfield 55, 3) := by decide +kernel
theorem dX10_print_23 : decode cX10_print 23 = .ok (.iload 6, 2) := by decide +kernel
theorem dX10_print_25 : decode cX10_print 25 = .ok (.invokestatic 138, 3) := by decide +kernel
theorem dX10_print_28 : decode cX10_print 28 = .ok (.ifCond .eq 18, 3) := by decide +kernel
theorem dX10_print_31 : decode cX10_print 31 = .ok (.iload 6, 2) := by decide +kernel
theorem dX10_print_33 : decode cX10_print 33 = .ok (.iconst 1, 1) := by decide +kernel
theorem dX10_print_34 : decode cX10_print 34 = .ok (.iadd, 1) := by decide +kernel
theorem dX10_print_35 : decode cX10_print 35 = .ok (.aload_n 2, 1) := by decide +kernel
theorem dX10_print_36 : decode cX10_print 36 = .ok (.getfield 142, 3) := by decide +kernel
theorem dX10_print_39 : decode cX10_print 39 = .ok (.iload 6, 2) := by decide +kernel
theorem dX10_print_41 : decode cX10_print 41 = .ok (.iaload, 1) := by decide +kernel
theorem dX10_print_42 : decode cX10_print 42 = .ok (.imul, 1) := by decide +kernel
theorem dX10_print_43 : decode cX10_print 43 = .ok (.goto 4, 3) := by decide +kernel
theorem dX10_print_46 : decode cX10_print 46 = .ok (.iconst 0, 1) := by decide +kernel
theorem dX10_print_47 : decode cX10_print 47 = .ok (.iadd, 1) := by decide +kernel
theorem dX10_print_48 : decode cX10_print 48 = .ok (.istore_n 3, 1) := by decide +kernel
theorem dX10_print_49 : decode cX10_print 49 = .ok (.iinc 6 1, 3) := by decide +kernel
theorem dX10_print_52 : decode cX10_print 52 = .ok (.goto (-41), 3) := by decide +kernel
theorem dX10_print_55 : decode cX10_print 55 = .ok (.iconst 0, 1) := by decide +kernel
theorem dX10_print_56 : decode cX10_print 56 = .ok (.istore 6, 2) := by decide +kernel
theorem dX10_print_58 : decode cX10_print 58 = .ok (.iload 6, 2) := by decide +kernel
theorem dX10_print_60 : decode cX10_print 60 = .ok (.aload_n 1, 1) := by decide +kernel
theorem dX10_print_61 : decode cX10_print 61 = .ok (.getfield 51, 3) := by decide +kernel
theorem dX10_print_64 : decode cX10_print 64 = .ok (.if_icmp .ge 42, 3) := by decide +kernel
theorem dX10_print_67 : decode cX10_print 67 = .ok (.iload 4, 2) := by decide +kernel
theorem dX10_print_69 : decode cX10_print 69 = .ok (.aload_n 1, 1) := by decide +kernel
theorem dX10_print_70 : decode cX10_print 70 = .ok (.getfield 58, 3) := by decide +kernel
theorem dX10_print_73 : decode cX10_print 73 = .ok (.iload 6, 2) := by decide +kernel
theorem dX10_print_75 : decode cX10_print 75 = .ok (.invokestatic 138, 3) := by decide +kernel
theorem dX10_print_78 : decode cX10_print 78 = .ok (.ifCond .eq 18, 3) := by decide +kernel
theorem dX10_print_81 : decode cX10_print 81 = .ok (.iload 6, 2) := by decide +kernel
theorem dX10_print_83 : decode cX10_print 83 = .ok (.iconst 2, 1) := by decide +kernel
theorem dX10_print_84 : decode cX10_print 84 = .ok (.iadd, 1) := by decide +kernel
theorem dX10_print_85 : decode cX10_print 85 = .ok (.aload_n 2, 1) := by decide +kernel
theorem dX10_print_86 : decode cX10_print 86 = .ok (.getfield 145, 3) := by decide +kernel
theorem dX10_print_89 : decode cX10_print 89 = .ok (.iload 6, 2) := by decide +kernel
theorem dX10_print_91 : decode cX10_print 91 = .ok (.iaload, 1) := by decide +kernel
theorem dX10_print_92 : decode cX10_print 92 = .ok (.imul, 1) := by decide +kernel
theorem dX10_print_93 : decode cX10_print 93 = .ok (.goto 4, 3) := by decide +kernel
theorem dX10_print_96 : decode cX10_print 96 = .ok (.iconst 0, 1) := by decide +kernel
theorem dX10_print_97 : decode cX10_print 97 = .ok (.iadd, 1) := by decide +kernel
theorem dX10_print_98 : decode cX10_print 98 = .ok (.istore 4, 2) := by decide +kernel
theorem dX10_print_100 : decode cX10_print 100 = .ok (.iinc 6 1, 3) := by decide +kernel
theorem dX10_print_103 : decode cX10_print 103 = .ok (.goto (-45), 3) := by decide +kernel
theorem dX10_print_106 : decode cX10_print 106 = .ok (.iconst 0, 1) := by decide +kernel
theorem dX10_print_107 : decode cX10_print 107 = .ok (.istore 6, 2) := by decide +kernel
theorem dX10_print_109 : decode cX10_print 109 = .ok (.iload 6, 2) := by decide +kernel
theorem dX10_print_111 : decode cX10_print 111 = .ok (.bipush 6, 2) := by decide +kernel
theorem dX10_print_113 : decode cX10_print 113 = .ok (.if_icmp .ge 42, 3) := by decide +kernel
theorem dX10_print_116 : decode cX10_print 116 = .ok (.iload 5, 2) := by decide +kernel
theorem dX10_print_118 : decode cX10_print 118 = .ok (.aload_n 1, 1) := by decide +kernel
theorem dX10_print_119 : decode cX10_print 119 = .ok (.getfield 60, 3) := by decide +kernel
theorem dX10_print_122 : decode cX10_print 122 = .ok (.iload 6, 2) := by decide +kernel
theorem dX10_print_124 : decode cX10_print 124 = .ok (.invokestatic 138, 3) := by decide +kernel
theorem dX10_print_127 : decode cX10_print 127 = .ok (.ifCond .eq 18, 3) := by decide +kernel
theorem dX10_print_130 : decode cX10_print 130 = .ok (.iload 6, 2) := by decide +kernel
theorem dX10_print_132 : decode cX10_print 132 = .ok (.iconst 1, 1) := by decide +kernel
theorem dX10_print_133 : decode cX10_print 133 = .ok (.iadd, 1) := by decide +kernel
theorem dX10_print_134 : decode cX10_print 134 = .ok (.aload_n 2, 1) := by decide +kernel
theorem dX10_print_135 : decode cX10_print 135 = .ok (.getfield 148, 3) := by decide +kernel
theorem dX10_print_138 : decode cX10_print 138 = .ok (.iload 6, 2) := by decide +kernel
theorem dX10_print_140 : decode cX10_print 140 = .ok (.iaload, 1) := by decide +kernel
theorem dX10_print_141 : decode cX10_print 141 = .ok (.imul, 1) := by decide +kernel
theorem dX10_print_142 : decode cX10_print 142 = .ok (.goto 4, 3) := by decide +kernel
theorem dX10_print_145 : decode cX10_print 145 = .ok (.iconst 0, 1) := by decide +kernel
theorem dX10_print_146 : decode cX10_print 146 = .ok (.iadd, 1) := by decide +kernel
theorem dX10_print_147 : decode cX10_print 147 = .ok (.istore 5, 2) := by decide +kernel
theorem dX10_print_149 : decode cX10_print 149 = .ok (.iinc 6 1, 3) := by decide +kernel
theorem dX10_print_152 : decode cX10_print 152 = .ok (.goto (-43), 3) := by decide +kernel
theorem dX10_print_155 : decode cX10_print 155 = .ok (.bipush 31, 2) := by decide +kernel
theorem dX10_print_157 : decode cX10_print 157 = .ok (.aload_n 1, 1) := by decide +kernel
theorem dX10_print_158 : decode cX10_print 158 = .ok (.getfield 51, 3) := by decide +kernel
theorem dX10_print_161 : decode cX10_print 161 = .ok (.imul, 1) := by decide +kernel
theorem dX10_print_162 : decode cX10_print 162 = .ok (.bipush 7, 2) := by decide +kernel
theorem dX10_print_164 : decode cX10_print 164 = .ok (.iload_n 3, 1) := by decide +kernel
theorem dX10_print_165 : decode cX10_print 165 = .ok (.imul, 1) := by decide +kernel
theorem dX10_print_166 : decode cX10_print 166 = .ok (.iadd, 1) := by decide +kernel
theorem dX10_print_167 : decode cX10_print 167 = .ok (.iconst 5, 1) := by decide +kernel
theorem dX10_print_168 : decode cX10_print 168 = .ok (.iload 4, 2) := by decide +kernel
theorem dX10_print_170 : decode cX10_print 170 = .ok (.imul, 1) := by decide +kernel
theorem dX10_print_171 : decode cX10_print 171 = .ok (.iadd, 1) := by decide +kernel
theorem dX10_print_172 : decode cX10_print 172 = .ok (.iconst 3, 1) := by decide +kernel
theorem dX10_print_173 : decode cX10_print 173 = .ok (.iload 5, 2) := by decide +kernel
theorem dX10_print_175 : decode cX10_print 175 = .ok (.imul, 1) := by decide +kernel
theorem dX10_print_176 : decode cX10_print 176 = .ok (.iadd, 1) := by decide +kernel
theorem dX10_print_177 : decode cX10_print 177 = .ok (.sipush 997, 3) := by decide +kernel
theorem dX10_print_180 : decode cX10_print 180 = .ok (.irem, 1) := by decide +kernel
theorem dX10_print_181 : decode cX10_print 181 = .ok (.ireturn, 1) := by decide +kernel
theorem dX10_read_0 : decode cX10_read 0 = .ok (.new 143, 3) := by decide +kernel
theorem dX10_read_3 : decode cX10_read 3 = .ok (.dup, 1) := by decide +kernel
theorem dX10_read_4 : decode cX10_read 4 = .ok (.invokespecial 149, 3) := by decide +kernel
theorem dX10_read_7 : decode cX10_read 7 = .ok (.astore 4, 2) := by decide +kernel
theorem dX10_read_9 : decode cX10_read 9 = .ok (.iconst 0, 1) := by decide +kernel
theorem dX10_read_10 : decode cX10_read 10 = .ok (.istore 5, 2) := by decide +kernel
theorem dX10_read_12 : decode cX10_read 12 = .ok (.iload 5, 2) := by decide +kernel
theorem dX10_read_14 : decode cX10_read 14 = .ok (.bipush 8, 2) := by decide +kernel
theorem dX10_read_16 : decode cX10_read 16 = .ok (.if_icmp .ge 40, 3) := by decide +kernel
theorem dX10_read_19 : decode cX10_read 19 = .ok (.aload 4, 2) := by decide +kernel
theorem dX10_read_21 : decode cX10_read 21 = .ok (.getfield 142, 3) := by decide +kernel
theorem dX10_read_24 : decode cX10_read 24 = .ok (.iload 5, 2) := by decide +kernel
theorem dX10_read_26 : decode cX10_read 26 = .ok (.aload_n 1, 1) := by decide +kernel
theorem dX10_read_27 : decode cX10_read 27 = .ok (.getfield 55, 3) := by decide +kernel
theorem dX10_read_30 : decode cX10_read 30 = .ok (.iload 5, 2) := by decide +kernel
theorem dX10_read_32 : decode cX10_read 32 = .ok (.invokestatic 138, 3) := by decide +kernel
theorem dX10_read_35 : decode cX10_read 35 = .ok (.ifCond .eq 13, 3) := by decide +kernel
theorem dX10_read_38 : decode cX10_read 38 = .ok (.aload_n 0, 1) := by decide +kernel
theorem dX10_read_39 : decode cX10_read 39 = .ok (.getfield 18, 3) := by decide +kernel
theorem dX10_read_42 : decode cX10_read 42 = .ok (.iload 5, 2) := by decide +kernel
theorem dX10_read_44 : decode cX10_read 44 = .ok (.iaload, 1) := by decide +kernel
theorem dX10_read_45 : decode cX10_read 45 = .ok (.goto 4, 3) := by decide +kernel
theorem dX10_read_48 : decode cX10_read 48 = .ok (.iconst (-1), 1) := by decide +kernel
theorem dX10_read_49 : decode cX10_read 49 = .ok (.iastore, 1) := by decide +kernel
theorem dX10_read_50 : decode cX10_read 50 = .ok (.iinc 5 1, 3) := by decide +kernel
theorem dX10_read_53 : decode cX10_read 53 = .ok (.goto (-41), 3) := by decide +kernel
theorem dX10_read_56 : decode cX10_read 56 = .ok (.iconst 0, 1) := by decide +kernel
theorem dX10_read_57 : decode cX10_read 57 = .ok (.istore 5, 2) := by decide +kernel
theorem dX10_read_59 : decode cX10_read 59 = .ok (.iload 5, 2) := by decide +kernel
theorem dX10_read_61 : decode cX10_read 61 = .ok (.bipush 14, 2) := by decide +kernel
theorem dX10_read_63 : decode cX10_read 63 = .ok (.if_icmp .ge 65, 3) := by decide +kernel
theorem dX10_read_66 : decode cX10_read 66 = .ok (.aload 4, 2) := by decide +kernel
theorem dX10_read_68 : decode cX10_read 68 = .ok (.getfield 145, 3) := by decide +kernel
theorem dX10_read_71 : decode cX10_read 71 = .ok (.iload 5, 2) := by decide +kernel
theorem dX10_read_73 : decode cX10_read 73 = .ok (.aload_n 1, 1) := by decide +kernel
theorem dX10_read_74 : decode cX10_read 74 = .ok (.getfield 58, 3) := by decide +kernel
theorem dX10_read_77 : decode cX10_read 77 = .ok (.iload 5, 2) := by decide +kernel
theorem dX10_read_79 : decode cX10_read 79 = .ok (.invokestatic 138, 3) := by decide +kernel
theorem dX10_read_82 : decode cX10_read 82 = .ok (.ifCond .eq 10, 3) := by decide +kernel
theorem dX10_read_85 : decode cX10_read 85 = .ok (.aload_n 2, 1) := by decide +kernel
theorem dX10_read_86 : decode cX10_read 86 = .ok (.iload 5, 2) := by decide +kernel
theorem dX10_read_88 : decode cX10_read 88 = .ok (.iaload, 1) := by decide +kernel
theorem dX10_read_89 : decode cX10_read 89 = .ok (.goto 4, 3) := by decide +kernel
theorem dX10_read_92 : decode cX10_read 92 = .ok (.iconst (-1), 1) := by decide +kernel
theorem dX10_read_93 : decode cX10_read 93 = .ok (.iastore, 1) := by decide +kernel
theorem dX10_read_94 : decode cX10_read 94 = .ok (.aload 4, 2) := by decide +kernel
theorem dX10_read_96 : decode cX10_read 96 = .ok (.getfield 150, 3) := by decide +kernel
theorem dX10_read_99 : decode cX10_read 99 = .ok (.iload 5, 2) := by decide +kernel
theorem dX10_read_101 : decode cX10_read 101 = .ok (.aload_n 1, 1) := by decide +kernel
theorem dX10_read_102 : decode cX10_read 102 = .ok (.getfield 58, 3) := by decide +kernel
theorem dX10_read_105 : decode cX10_read 105 = .ok (.iload 5, 2) := by decide +kernel
theorem dX10_read_107 : decode cX10_read 107 = .ok (.invokestatic 138, 3) := by decide +kernel
theorem dX10_read_110 : decode cX10_read 110 = .ok (.ifCond .eq 10, 3) := by decide +kernel
theorem dX10_read_113 : decode cX10_read 113 = .ok (.aload_n 3, 1) := by decide +kernel
theorem dX10_read_114 : decode cX10_read 114 = .ok (.iload 5, 2) := by decide +kernel
theorem dX10_read_116 : decode cX10_read 116 = .ok (.iaload, 1) := by decide +kernel
theorem dX10_read_117 : decode cX10_read 117 = .ok (.goto 4, 3) := by decide +kernel
theorem dX10_read_120 : decode cX10_read 120 = .ok (.iconst (-1), 1) := by decide +kernel
theorem dX10_read_121 : decode cX10_read 121 = .ok (.iastore, 1) := by decide +kernel
theorem dX10_read_122 : decode cX10_read 122 = .ok (.iinc 5 1, 3) := by decide +kernel
theorem dX10_read_125 : decode cX10_read 125 = .ok (.goto (-66), 3) := by decide +kernel
theorem dX10_read_128 : decode cX10_read 128 = .ok (.iconst 0, 1) := by decide +kernel
theorem dX10_read_129 : decode cX10_read 129 = .ok (.istore 5, 2) := by decide +kernel
theorem dX10_read_131 : decode cX10_read 131 = .ok (.iload 5, 2) := by decide +kernel
theorem dX10_read_133 : decode cX10_read 133 = .ok (.bipush 6, 2) := by decide +kernel
theorem dX10_read_135 : decode cX10_read 135 = .ok (.if_icmp .ge 40, 3) := by decide +kernel
theorem dX10_read_138 : decode cX10_read 138 = .ok (.aload 4, 2) := by decide +kernel
theorem dX10_read_140 : decode cX10_read 140 = .ok (.getfield 148, 3) := by decide +kernel
theorem dX10_read_143 : decode cX10_read 143 = .ok (.iload 5, 2) := by decide +kernel
theorem dX10_read_145 : decode cX10_read 145 = .ok (.aload_n 1, 1) := by decide +kernel
theorem dX10_read_146 : decode cX10_read 146 = .ok (.getfield 60, 3) := by decide +kernel
theorem dX10_read_149 : decode cX10_read 149 = .ok (.iload 5, 2) := by decide +kernel
theorem dX10_read_151 : decode cX10_read 151 = .ok (.invokestatic 138, 3) := by decide +kernel
theorem dX10_read_154 : decode cX10_read 154 = .ok (.ifCond .eq 13, 3) := by decide +kernel
theorem dX10_read_157 : decode cX10_read 157 = .ok (.aload_n 0, 1) := by decide +kernel
theorem dX10_read_158 : decode cX10_read 158 = .ok (.getfield 22, 3) := by decide +kernel
theorem dX10_read_161 : decode cX10_read 161 = .ok (.iload 5, 2) := by decide +kernel
theorem dX10_read_163 : decode cX10_read 163 = .ok (.iaload, 1) := by decide +kernel
theorem dX10_read_164 : decode cX10_read 164 = .ok (.goto 4, 3) := by decide +kernel
theorem dX10_read_167 : decode cX10_read 167 = .ok (.iconst (-1), 1) := by decide +kernel
theorem dX10_read_168 : decode cX10_read 168 = .ok (.iastore, 1) := by decide +kernel
theorem dX10_read_169 : decode cX10_read 169 = .ok (.iinc 5 1, 3) := by decide +kernel
theorem dX10_read_172 : decode cX10_read 172 = .ok (.goto (-41), 3) := by decide +kernel
theorem dX10_read_175 : decode cX10_read 175 = .ok (.aload 4, 2) := by decide +kernel
theorem dX10_read_177 : decode cX10_read 177 = .ok (.areturn, 1) := by decide +kernel
theorem dX10_chosen_0 : decode cX10_chosen 0 = .ok (.iconst (-1), 1) := by decide +kernel
theorem dX10_chosen_1 : decode cX10_chosen 1 = .ok (.istore_n 2, 1) := by decide +kernel
theorem dX10_chosen_2 : decode cX10_chosen 2 = .ok (.iconst 0, 1) := by decide +kernel
theorem dX10_chosen_3 : decode cX10_chosen 3 = .ok (.istore_n 3, 1) := by decide +kernel
theorem dX10_chosen_4 : decode cX10_chosen 4 = .ok (.iload_n 3, 1) := by decide +kernel
theorem dX10_chosen_5 : decode cX10_chosen 5 = .ok (.aload_n 0, 1) := by decide +kernel
theorem dX10_chosen_6 : decode cX10_chosen 6 = .ok (.getfield 25, 3) := by decide +kernel
theorem dX10_chosen_9 : decode cX10_chosen 9 = .ok (.invokevirtual 153, 3) := by decide +kernel
theorem dX10_chosen_12 : decode cX10_chosen 12 = .ok (.if_icmp .ge 113, 3) := by decide +kernel
theorem dX10_chosen_15 : decode cX10_chosen 15 = .ok (.aload_n 0, 1) := by decide +kernel
theorem dX10_chosen_16 : decode cX10_chosen 16 = .ok (.getfield 25, 3) := by decide +kernel
theorem dX10_chosen_19 : decode cX10_chosen 19 = .ok (.iload_n 3, 1) := by decide +kernel
theorem dX10_chosen_20 : decode cX10_chosen 20 = .ok (.invokevirtual 121, 3) := by decide +kernel
theorem dX10_chosen_23 : decode cX10_chosen 23 = .ok (.checkcast 85, 3) := by decide +kernel
theorem dX10_chosen_26 : decode cX10_chosen 26 = .ok (.astore 4, 2) := by decide +kernel
theorem dX10_chosen_28 : decode cX10_chosen 28 = .ok (.iload_n 3, 1) := by decide +kernel
theorem dX10_chosen_29 : decode cX10_chosen 29 = .ok (.iload_n 1, 1) := by decide +kernel
theorem dX10_chosen_30 : decode cX10_chosen 30 = .ok (.if_icmp .eq 89, 3) := by decide +kernel
theorem dX10_chosen_33 : decode cX10_chosen 33 = .ok (.aload 4, 2) := by decide +kernel
theorem dX10_chosen_35 : decode cX10_chosen 35 = .ok (.getfield 91, 3) := by decide +kernel
theorem dX10_chosen_38 : decode cX10_chosen 38 = .ok (.bipush 20, 2) := by decide +kernel
theorem dX10_chosen_40 : decode cX10_chosen 40 = .ok (.if_icmp .ge 6, 3) := by decide +kernel
theorem dX10_chosen_43 : decode cX10_chosen 43 = .ok (.goto 76, 3) := by decide +kernel
theorem dX10_chosen_46 : decode cX10_chosen 46 = .ok (.iload_n 2, 1) := by decide +kernel
theorem dX10_chosen_47 : decode cX10_chosen 47 = .ok (.iconst (-1), 1) := by decide +kernel
theorem dX10_chosen_48 : decode cX10_chosen 48 = .ok (.if_icmp .eq 69, 3) := by decide +kernel
theorem dX10_chosen_51 : decode cX10_chosen 51 = .ok (.aload 4, 2) := by decide +kernel
theorem dX10_chosen_53 : decode cX10_chosen 53 = .ok (.getfield 91, 3) := by decide +kernel
theorem dX10_chosen_56 : decode cX10_chosen 56 = .ok (.aload_n 0, 1) := by decide +kernel
theorem dX10_chosen_57 : decode cX10_chosen 57 = .ok (.getfield 25, 3) := by decide +kernel
theorem dX10_chosen_60 : decode cX10_chosen 60 = .ok (.iload_n 2, 1) := by decide +kernel
theorem dX10_chosen_61 : decode cX10_chosen 61 = .ok (.invokevirtual 121, 3) := by decide +kernel
theorem dX10_chosen_64 : decode cX10_chosen 64 = .ok (.checkcast 85, 3) := by decide +kernel
theorem dX10_chosen_67 : decode cX10_chosen 67 = .ok (.getfield 91, 3) := by decide +kernel
theorem dX10_chosen_70 : decode cX10_chosen 70 = .ok (.if_icmp .gt 47, 3) := by decide +kernel
theorem dX10_chosen_73 : decode cX10_chosen 73 = .ok (.aload 4, 2) := by decide +kernel
theorem dX10_chosen_75 : decode cX10_chosen 75 = .ok (.getfield 91, 3) := by decide +kernel
theorem dX10_chosen_78 : decode cX10_chosen 78 = .ok (.aload_n 0, 1) := by decide +kernel
theorem dX10_chosen_79 : decode cX10_chosen 79 = .ok (.getfield 25, 3) := by decide +kernel
theorem dX10_chosen_82 : decode cX10_chosen 82 = .ok (.iload_n 2, 1) := by decide +kernel
theorem dX10_chosen_83 : decode cX10_chosen 83 = .ok (.invokevirtual 121, 3) := by decide +kernel
theorem dX10_chosen_86 : decode cX10_chosen 86 = .ok (.checkcast 85, 3) := by decide +kernel
theorem dX10_chosen_89 : decode cX10_chosen 89 = .ok (.getfield 91, 3) := by decide +kernel
theorem dX10_chosen_92 : decode cX10_chosen 92 = .ok (.if_icmp .ne 27, 3) := by decide +kernel
theorem dX10_chosen_95 : decode cX10_chosen 95 = .ok (.aload 4, 2) := by decide +kernel
theorem dX10_chosen_97 : decode cX10_chosen 97 = .ok (.getfield 97, 3) := by decide +kernel
theorem dX10_chosen_100 : decode cX10_chosen 100 = .ok (.aload_n 0, 1) := by decide +kernel
theorem dX10_chosen_101 : decode cX10_chosen 101 = .ok (.getfield 25, 3) := by decide +kernel
theorem dX10_chosen_104 : decode cX10_chosen 104 = .ok (.iload_n 2, 1) := by decide +kernel
theorem dX10_chosen_105 : decode cX10_chosen 105 = .ok (.invokevirtual 121, 3) := by decide +kernel
theorem dX10_chosen_108 : decode cX10_chosen 108 = .ok (.checkcast 85, 3) := by decide +kernel
theorem dX10_chosen_111 : decode cX10_chosen 111 = .ok (.getfield 97, 3) := by decide +kernel
theorem dX10_chosen_114 : decode cX10_chosen 114 = .ok (.if_icmp .ge 5, 3) := by decide +kernel
theorem dX10_chosen_117 : decode cX10_chosen 117 = .ok (.iload_n 3, 1) := by decide +kernel
theorem dX10_chosen_118 : decode cX10_chosen 118 = .ok (.istore_n 2, 1) := by decide +kernel
theorem dX10_chosen_119 : decode cX10_chosen 119 = .ok (.iinc 3 1, 3) := by decide +kernel
theorem dX10_chosen_122 : decode cX10_chosen 122 = .ok (.goto (-118), 3) := by decide +kernel
theorem dX10_chosen_125 : decode cX10_chosen 125 = .ok (.iload_n 2, 1) := by decide +kernel
theorem dX10_chosen_126 : decode cX10_chosen 126 = .ok (.ireturn, 1) := by decide +kernel
theorem dX10_run_0 : decode cX10_run 0 = .ok (.aload_n 0, 1) := by decide +kernel
theorem dX10_run_1 : decode cX10_run 1 = .ok (.getfield 25, 3) := by decide +kernel
theorem dX10_run_4 : decode cX10_run 4 = .ok (.iload_n 1, 1) := by decide +kernel
theorem dX10_run_5 : decode cX10_run 5 = .ok (.invokevirtual 121, 3) := by decide +kernel
theorem dX10_run_8 : decode cX10_run 8 = .ok (.checkcast 85, 3) := by decide +kernel
theorem dX10_run_11 : decode cX10_run 11 = .ok (.astore 4, 2) := by decide +kernel
theorem dX10_run_13 : decode cX10_run 13 = .ok (.aload 4, 2) := by decide +kernel
theorem dX10_run_15 : decode cX10_run 15 = .ok (.dup, 1) := by decide +kernel
theorem dX10_run_16 : decode cX10_run 16 = .ok (.getfield 94, 3) := by decide +kernel
theorem dX10_run_19 : decode cX10_run 19 = .ok (.iconst 1, 1) := by decide +kernel
theorem dX10_run_20 : decode cX10_run 20 = .ok (.iadd, 1) := by decide +kernel
theorem dX10_run_21 : decode cX10_run 21 = .ok (.putfield 94, 3) := by decide +kernel
theorem dX10_run_24 : decode cX10_run 24 = .ok (.aload 4, 2) := by decide +kernel
theorem dX10_run_26 : decode cX10_run 26 = .ok (.dup, 1) := by decide +kernel
theorem dX10_run_27 : decode cX10_run 27 = .ok (.getfield 97, 3) := by decide +kernel
theorem dX10_run_30 : decode cX10_run 30 = .ok (.aload_n 2, 1) := by decide +kernel
theorem dX10_run_31 : decode cX10_run 31 = .ok (.getfield 66, 3) := by decide +kernel
theorem dX10_run_34 : decode cX10_run 34 = .ok (.iadd, 1) := by decide +kernel
theorem dX10_run_35 : decode cX10_run 35 = .ok (.putfield 97, 3) := by decide +kernel
theorem dX10_run_38 : decode cX10_run 38 = .ok (.aload_n 0, 1) := by decide +kernel
theorem dX10_run_39 : decode cX10_run 39 = .ok (.aload_n 2, 1) := by decide +kernel
theorem dX10_run_40 : decode cX10_run 40 = .ok (.aload_n 3, 1) := by decide +kernel
theorem dX10_run_41 : decode cX10_run 41 = .ok (.invokevirtual 156, 3) := by decide +kernel
theorem dX10_run_44 : decode cX10_run 44 = .ok (.istore 5, 2) := by decide +kernel
theorem dX10_run_46 : decode cX10_run 46 = .ok (.aload 4, 2) := by decide +kernel
theorem dX10_run_48 : decode cX10_run 48 = .ok (.getfield 88, 3) := by decide +kernel
theorem dX10_run_51 : decode cX10_run 51 = .ok (.ifCond .le 28, 3) := by decide +kernel
theorem dX10_run_54 : decode cX10_run 54 = .ok (.aload 4, 2) := by decide +kernel
theorem dX10_run_56 : decode cX10_run 56 = .ok (.getfield 94, 3) := by decide +kernel
theorem dX10_run_59 : decode cX10_run 59 = .ok (.aload 4, 2) := by decide +kernel
theorem dX10_run_61 : decode cX10_run 61 = .ok (.getfield 88, 3) := by decide +kernel
theorem dX10_run_64 : decode cX10_run 64 = .ok (.irem, 1) := by decide +kernel
theorem dX10_run_65 : decode cX10_run 65 = .ok (.ifCond .ne 14, 3) := by decide +kernel
theorem dX10_run_68 : decode cX10_run 68 = .ok (.iload 5, 2) := by decide +kernel
theorem dX10_run_70 : decode cX10_run 70 = .ok (.iconst 1, 1) := by decide +kernel
theorem dX10_run_71 : decode cX10_run 71 = .ok (.iadd, 1) := by decide +kernel
theorem dX10_run_72 : decode cX10_run 72 = .ok (.sipush 997, 3) := by decide +kernel
theorem dX10_run_75 : decode cX10_run 75 = .ok (.irem, 1) := by decide +kernel
theorem dX10_run_76 : decode cX10_run 76 = .ok (.goto 5, 3) := by decide +kernel
theorem dX10_run_79 : decode cX10_run 79 = .ok (.iload 5, 2) := by decide +kernel
theorem dX10_run_81 : decode cX10_run 81 = .ok (.ireturn, 1) := by decide +kernel
theorem dX10_uses_0 : decode cX10_uses 0 = .ok (.iconst 0, 1) := by decide +kernel
theorem dX10_uses_1 : decode cX10_uses 1 = .ok (.istore_n 2, 1) := by decide +kernel
theorem dX10_uses_2 : decode cX10_uses 2 = .ok (.aload_n 0, 1) := by decide +kernel
theorem dX10_uses_3 : decode cX10_uses 3 = .ok (.getfield 31, 3) := by decide +kernel
theorem dX10_uses_6 : decode cX10_uses 6 = .ok (.invokevirtual 35, 3) := by decide +kernel
theorem dX10_uses_9 : decode cX10_uses 9 = .ok (.astore_n 3, 1) := by decide +kernel
theorem dX10_uses_10 : decode cX10_uses 10 = .ok (.aload_n 3, 1) := by decide +kernel
theorem dX10_uses_11 : decode cX10_uses 11 = .ok (.invokeinterface 39 1, 5) := by decide +kernel
theorem dX10_uses_16 : decode cX10_uses 16 = .ok (.ifCond .eq 49, 3) := by decide +kernel
theorem dX10_uses_19 : decode cX10_uses 19 = .ok (.aload_n 3, 1) := by decide +kernel
theorem dX10_uses_20 : decode cX10_uses 20 = .ok (.invokeinterface 45 1, 5) := by decide +kernel
theorem dX10_uses_25 : decode cX10_uses 25 = .ok (.checkcast 115, 3) := by decide +kernel
theorem dX10_uses_28 : decode cX10_uses 28 = .ok (.astore 4, 2) := by decide +kernel
theorem dX10_uses_30 : decode cX10_uses 30 = .ok (.iload_n 2, 1) := by decide +kernel
theorem dX10_uses_31 : decode cX10_uses 31 = .ok (.aload 4, 2) := by decide +kernel
theorem dX10_uses_33 : decode cX10_uses 33 = .ok (.getfield 160, 3) := by decide +kernel
theorem dX10_uses_36 : decode cX10_uses 36 = .ok (.iload_n 1, 1) := by decide +kernel
theorem dX10_uses_37 : decode cX10_uses 37 = .ok (.if_icmp .ne 22, 3) := by decide +kernel
theorem dX10_uses_40 : decode cX10_uses 40 = .ok (.aload 4, 2) := by decide +kernel
theorem dX10_uses_42 : decode cX10_uses 42 = .ok (.getfield 163, 3) := by decide +kernel
theorem dX10_uses_45 : decode cX10_uses 45 = .ok (.ifCond .ne 14, 3) := by decide +kernel
theorem dX10_uses_48 : decode cX10_uses 48 = .ok (.aload 4, 2) := by decide +kernel
theorem dX10_uses_50 : decode cX10_uses 50 = .ok (.getfield 117, 3) := by decide +kernel
theorem dX10_uses_53 : decode cX10_uses 53 = .ok (.getfield 69, 3) := by decide +kernel
theorem dX10_uses_56 : decode cX10_uses 56 = .ok (.goto 4, 3) := by decide +kernel
theorem dX10_uses_59 : decode cX10_uses 59 = .ok (.iconst 0, 1) := by decide +kernel
theorem dX10_uses_60 : decode cX10_uses 60 = .ok (.iadd, 1) := by decide +kernel
theorem dX10_uses_61 : decode cX10_uses 61 = .ok (.istore_n 2, 1) := by decide +kernel
theorem dX10_uses_62 : decode cX10_uses 62 = .ok (.goto (-52), 3) := by decide +kernel
theorem dX10_uses_65 : decode cX10_uses 65 = .ok (.iload_n 2, 1) := by decide +kernel
theorem dX10_uses_66 : decode cX10_uses 66 = .ok (.ireturn, 1) := by decide +kernel
theorem dX10_shrink_0 : decode cX10_shrink 0 = .ok (.iconst 0, 1) := by decide +kernel
theorem dX10_shrink_1 : decode cX10_shrink 1 = .ok (.istore_n 3, 1) := by decide +kernel
theorem dX10_shrink_2 : decode cX10_shrink 2 = .ok (.aload_n 0, 1) := by decide +kernel
theorem dX10_shrink_3 : decode cX10_shrink 3 = .ok (.iload_n 1, 1) := by decide +kernel
theorem dX10_shrink_4 : decode cX10_shrink 4 = .ok (.invokevirtual 166, 3) := by decide +kernel
theorem dX10_shrink_7 : decode cX10_shrink 7 = .ok (.iload_n 2, 1) := by decide +kernel
theorem dX10_shrink_8 : decode cX10_shrink 8 = .ok (.if_icmp .le 91, 3) := by decide +kernel
theorem dX10_shrink_11 : decode cX10_shrink 11 = .ok (.aconst_null, 1) := by decide +kernel
theorem dX10_shrink_12 : decode cX10_shrink 12 = .ok (.astore 4, 2) := by decide +kernel
theorem dX10_shrink_14 : decode cX10_shrink 14 = .ok (.aload_n 0, 1) := by decide +kernel
theorem dX10_shrink_15 : decode cX10_shrink 15 = .ok (.getfield 31, 3) := by decide +kernel
theorem dX10_shrink_18 : decode cX10_shrink 18 = .ok (.invokevirtual 35, 3) := by decide +kernel
theorem dX10_shrink_21 : decode cX10_shrink 21 = .ok (.astore 5, 2) := by decide +kernel
theorem dX10_shrink_23 : decode cX10_shrink 23 = .ok (.aload 5, 2) := by decide +kernel
theorem dX10_shrink_25 : decode cX10_shrink 25 = .ok (.invokeinterface 39 1, 5) := by decide +kernel
theorem dX10_shrink_30 : decode cX10_shrink 30 = .ok (.ifCond .eq 57, 3) := by decide +kernel
theorem dX10_shrink_33 : decode cX10_shrink 33 = .ok (.aload 5, 2) := by decide +kernel
theorem dX10_shrink_35 : decode cX10_shrink 35 = .ok (.invokeinterface 45 1, 5) := by decide +kernel
theorem dX10_shrink_40 : decode cX10_shrink 40 = .ok (.checkcast 115, 3) := by decide +kernel
theorem dX10_shrink_43 : decode cX10_shrink 43 = .ok (.astore 6, 2) := by decide +kernel
theorem dX10_shrink_45 : decode cX10_shrink 45 = .ok (.aload 6, 2) := by decide +kernel
theorem dX10_shrink_47 : decode cX10_shrink 47 = .ok (.getfield 160, 3) := by decide +kernel
theorem dX10_shrink_50 : decode cX10_shrink 50 = .ok (.iload_n 1, 1) := by decide +kernel
theorem dX10_shrink_51 : decode cX10_shrink 51 = .ok (.if_icmp .ne 33, 3) := by decide +kernel
theorem dX10_shrink_54 : decode cX10_shrink 54 = .ok (.aload 6, 2) := by decide +kernel
theorem dX10_shrink_56 : decode cX10_shrink 56 = .ok (.getfield 163, 3) := by decide +kernel
theorem dX10_shrink_59 : decode cX10_shrink 59 = .ok (.ifCond .ne 25, 3) := by decide +kernel
theorem dX10_shrink_62 : decode cX10_shrink 62 = .ok (.aload 4, 2) := by decide +kernel
theorem dX10_shrink_64 : decode cX10_shrink 64 = .ok (.ifnull 16, 3) := by decide +kernel
theorem dX10_shrink_67 : decode cX10_shrink 67 = .ok (.aload 6, 2) := by decide +kernel
theorem dX10_shrink_69 : decode cX10_shrink 69 = .ok (.invokevirtual 170, 3) := by decide +kernel
theorem dX10_shrink_72 : decode cX10_shrink 72 = .ok (.aload 4, 2) := by decide +kernel
theorem dX10_shrink_74 : decode cX10_shrink 74 = .ok (.invokevirtual 170, 3) := by decide +kernel
theorem dX10_shrink_77 : decode cX10_shrink 77 = .ok (.if_icmp .ge 7, 3) := by decide +kernel
theorem dX10_shrink_80 : decode cX10_shrink 80 = .ok (.aload 6, 2) := by decide +kernel
theorem dX10_shrink_82 : decode cX10_shrink 82 = .ok (.astore 4, 2) := by decide +kernel
theorem dX10_shrink_84 : decode cX10_shrink 84 = .ok (.goto (-61), 3) := by decide +kernel
theorem dX10_shrink_87 : decode cX10_shrink 87 = .ok (.aload 4, 2) := by decide +kernel
theorem dX10_shrink_89 : decode cX10_shrink 89 = .ok (.iconst 1, 1) := by decide +kernel
theorem dX10_shrink_90 : decode cX10_shrink 90 = .ok (.putfield 163, 3) := by decide +kernel
theorem dX10_shrink_93 : decode cX10_shrink 93 = .ok (.iinc 3 1, 3) := by decide +kernel
theorem dX10_shrink_96 : decode cX10_shrink 96 = .ok (.goto (-94), 3) := by decide +kernel
theorem dX10_shrink_99 : decode cX10_shrink 99 = .ok (.iload_n 3, 1) := by decide +kernel
theorem dX10_shrink_100 : decode cX10_shrink 100 = .ok (.ireturn, 1) := by decide +kernel
theorem dX10_isAdded_0 : decode cX10_isAdded 0 = .ok (.aload_n 0, 1) := by decide +kernel
theorem dX10_isAdded_1 : decode cX10_isAdded 1 = .ok (.getfield 31, 3) := by decide +kernel
theorem dX10_isAdded_4 : decode cX10_isAdded 4 = .ok (.invokevirtual 153, 3) := by decide +kernel
theorem dX10_isAdded_7 : decode cX10_isAdded 7 = .ok (.bipush 60, 2) := by decide +kernel
theorem dX10_isAdded_9 : decode cX10_isAdded 9 = .ok (.if_icmp .ne 5, 3) := by decide +kernel
theorem dX10_isAdded_12 : decode cX10_isAdded 12 = .ok (.iconst 0, 1) := by decide +kernel
theorem dX10_isAdded_13 : decode cX10_isAdded 13 = .ok (.ireturn, 1) := by decide +kernel
theorem dX10_isAdded_14 : decode cX10_isAdded 14 = .ok (.aload_n 0, 1) := by decide +kernel
theorem dX10_isAdded_15 : decode cX10_isAdded 15 = .ok (.getfield 28, 3) := by decide +kernel
theorem dX10_isAdded_18 : decode cX10_isAdded 18 = .ok (.aload_n 1, 1) := by decide +kernel
theorem dX10_isAdded_19 : decode cX10_isAdded 19 = .ok (.getfield 160, 3) := by decide +kernel
theorem dX10_isAdded_22 : decode cX10_isAdded 22 = .ok (.invokevirtual 121, 3) := by decide +kernel
theorem dX10_isAdded_25 : decode cX10_isAdded 25 = .ok (.checkcast 103, 3) := by decide +kernel
theorem dX10_isAdded_28 : decode cX10_isAdded 28 = .ok (.getfield 106, 3) := by decide +kernel
theorem dX10_isAdded_31 : decode cX10_isAdded 31 = .ok (.istore_n 2, 1) := by decide +kernel
theorem dX10_isAdded_32 : decode cX10_isAdded 32 = .ok (.aload_n 1, 1) := by decide +kernel
theorem dX10_isAdded_33 : decode cX10_isAdded 33 = .ok (.getfield 117, 3) := by decide +kernel
theorem dX10_isAdded_36 : decode cX10_isAdded 36 = .ok (.getfield 69, 3) := by decide +kernel
theorem dX10_isAdded_39 : decode cX10_isAdded 39 = .ok (.iload_n 2, 1) := by decide +kernel
theorem dX10_isAdded_40 : decode cX10_isAdded 40 = .ok (.if_icmp .le 11, 3) := by decide +kernel
theorem dX10_isAdded_43 : decode cX10_isAdded 43 = .ok (.aload_n 1, 1) := by decide +kernel
theorem dX10_isAdded_44 : decode cX10_isAdded 44 = .ok (.iconst 1, 1) := by decide +kernel
theorem dX10_isAdded_45 : decode cX10_isAdded 45 = .ok (.putfield 163, 3) := by decide +kernel
theorem dX10_isAdded_48 : decode cX10_isAdded 48 = .ok (.goto 21, 3) := by decide +kernel
theorem dX10_isAdded_51 : decode cX10_isAdded 51 = .ok (.aload_n 0, 1) := by decide +kernel
theorem dX10_isAdded_52 : decode cX10_isAdded 52 = .ok (.aload_n 1, 1) := by decide +kernel
theorem dX10_isAdded_53 : decode cX10_isAdded 53 = .ok (.getfield 160, 3) := by decide +kernel
theorem dX10_isAdded_56 : decode cX10_isAdded 56 = .ok (.iload_n 2, 1) := by decide +kernel
theorem dX10_isAdded_57 : decode cX10_isAdded 57 = .ok (.aload_n 1, 1) := by decide +kernel
theorem dX10_isAdded_58 : decode cX10_isAdded 58 = .ok (.getfield 117, 3) := by decide +kernel
theorem dX10_isAdded_61 : decode cX10_isAdded 61 = .ok (.getfield 69, 3) := by decide +kernel
theorem dX10_isAdded_64 : decode cX10_isAdded 64 = .ok (.isub, 1) := by decide +kernel
theorem dX10_isAdded_65 : decode cX10_isAdded 65 = .ok (.invokevirtual 173, 3) := by decide +kernel
theorem dX10_isAdded_68 : decode cX10_isAdded 68 = .ok (.pop, 1) := by decide +kernel
theorem dX10_isAdded_69 : decode cX10_isAdded 69 = .ok (.aload_n 0, 1) := by decide +kernel
theorem dX10_isAdded_70 : decode cX10_isAdded 70 = .ok (.getfield 31, 3) := by decide +kernel
theorem dX10_isAdded_73 : decode cX10_isAdded 73 = .ok (.aload_n 1, 1) := by decide +kernel
theorem dX10_isAdded_74 : decode cX10_isAdded 74 = .ok (.invokevirtual 75, 3) := by decide +kernel
theorem dX10_isAdded_77 : decode cX10_isAdded 77 = .ok (.pop, 1) := by decide +kernel
theorem dX10_isAdded_78 : decode cX10_isAdded 78 = .ok (.iconst 1, 1) := by decide +kernel
theorem dX10_isAdded_79 : decode cX10_isAdded 79 = .ok (.ireturn, 1) := by decide +kernel
theorem dX10_cameOf_0 : decode cX10_cameOf 0 = .ok (.bipush 60, 2) := by decide +kernel
theorem dX10_cameOf_2 : decode cX10_cameOf 2 = .ok (.newarray .boolean, 2) := by decide +kernel
theorem dX10_cameOf_4 : decode cX10_cameOf 4 = .ok (.astore_n 2, 1) := by decide +kernel
theorem dX10_cameOf_5 : decode cX10_cameOf 5 = .ok (.aload_n 2, 1) := by decide +kernel
theorem dX10_cameOf_6 : decode cX10_cameOf 6 = .ok (.iload_n 1, 1) := by decide +kernel
theorem dX10_cameOf_7 : decode cX10_cameOf 7 = .ok (.iconst 1, 1) := by decide +kernel
theorem dX10_cameOf_8 : decode cX10_cameOf 8 = .ok (.bastore, 1) := by decide +kernel
theorem dX10_cameOf_9 : decode cX10_cameOf 9 = .ok (.iload_n 1, 1) := by decide +kernel
theorem dX10_cameOf_10 : decode cX10_cameOf 10 = .ok (.iconst 1, 1) := by decide +kernel
theorem dX10_cameOf_11 : decode cX10_cameOf 11 = .ok (.iadd, 1) := by decide +kernel
theorem dX10_cameOf_12 : decode cX10_cameOf 12 = .ok (.istore_n 3, 1) := by decide +kernel
theorem dX10_cameOf_13 : decode cX10_cameOf 13 = .ok (.iload_n 3, 1) := by decide +kernel
theorem dX10_cameOf_14 : decode cX10_cameOf 14 = .ok (.aload_n 0, 1) := by decide +kernel
theorem dX10_cameOf_15 : decode cX10_cameOf 15 = .ok (.getfield 31, 3) := by decide +kernel
theorem dX10_cameOf_18 : decode cX10_cameOf 18 = .ok (.invokevirtual 153, 3) := by decide +kernel
theorem dX10_cameOf_21 : decode cX10_cameOf 21 = .ok (.if_icmp .ge 80, 3) := by decide +kernel
theorem dX10_cameOf_24 : decode cX10_cameOf 24 = .ok (.aload_n 0, 1) := by decide +kernel
theorem dX10_cameOf_25 : decode cX10_cameOf 25 = .ok (.getfield 31, 3) := by decide +kernel
theorem dX10_cameOf_28 : decode cX10_cameOf 28 = .ok (.iload_n 3, 1) := by decide +kernel
theorem dX10_cameOf_29 : decode cX10_cameOf 29 = .ok (.invokevirtual 121, 3) := by decide +kernel
theorem dX10_cameOf_32 : decode cX10_cameOf 32 = .ok (.checkcast 115, 3) := by decide +kernel
theorem dX10_cameOf_35 : decode cX10_cameOf 35 = .ok (.getfield 177, 3) := by decide +kernel
theorem dX10_cameOf_38 : decode cX10_cameOf 38 = .ok (.getfield 150, 3) := by decide +kernel
theorem dX10_cameOf_41 : decode cX10_cameOf 41 = .ok (.astore 4, 2) := by decide +kernel
theorem dX10_cameOf_43 : decode cX10_cameOf 43 = .ok (.aload 4, 2) := by decide +kernel
theorem dX10_cameOf_45 : decode cX10_cameOf 45 = .ok (.arraylength, 1) := by decide +kernel
theorem dX10_cameOf_46 : decode cX10_cameOf 46 = .ok (.istore 5, 2) := by decide +kernel
theorem dX10_cameOf_48 : decode cX10_cameOf 48 = .ok (.iconst 0, 1) := by decide +kernel
theorem dX10_cameOf_49 : decode cX10_cameOf 49 = .ok (.istore 6, 2) := by decide +kernel
theorem dX10_cameOf_51 : decode cX10_cameOf 51 = .ok (.iload 6, 2) := by decide +kernel
theorem dX10_cameOf_53 : decode cX10_cameOf 53 = .ok (.iload 5, 2) := by decide +kernel
theorem dX10_cameOf_55 : decode cX10_cameOf 55 = .ok (.if_icmp .ge 40, 3) := by decide +kernel
theorem dX10_cameOf_58 : decode cX10_cameOf 58 = .ok (.aload 4, 2) := by decide +kernel
theorem dX10_cameOf_60 : decode cX10_cameOf 60 = .ok (.iload 6, 2) := by decide +kernel
theorem dX10_cameOf_62 : decode cX10_cameOf 62 = .ok (.iaload, 1) := by decide +kernel
theorem dX10_cameOf_63 : decode cX10_cameOf 63 = .ok (.istore 7, 2) := by decide +kernel
theorem dX10_cameOf_65 : decode cX10_cameOf 65 = .ok (.aload_n 2, 1) := by decide +kernel
theorem dX10_cameOf_66 : decode cX10_cameOf 66 = .ok (.iload_n 3, 1) := by decide +kernel
theorem dX10_cameOf_67 : decode cX10_cameOf 67 = .ok (.dup2, 1) := by decide +kernel
theorem dX10_cameOf_68 : decode cX10_cameOf 68 = .ok (.baload, 1) := by decide +kernel
theorem dX10_cameOf_69 : decode cX10_cameOf 69 = .ok (.iload 7, 2) := by decide +kernel
theorem dX10_cameOf_71 : decode cX10_cameOf 71 = .ok (.iconst (-1), 1) := by decide +kernel
theorem dX10_cameOf_72 : decode cX10_cameOf 72 = .ok (.if_icmp .eq 14, 3) := by decide +kernel
theorem dX10_cameOf_75 : decode cX10_cameOf 75 = .ok (.aload_n 2, 1) := by decide +kernel
theorem dX10_cameOf_76 : decode cX10_cameOf 76 = .ok (.iload 7, 2) := by decide +kernel
theorem dX10_cameOf_78 : decode cX10_cameOf 78 = .ok (.baload, 1) := by decide +kernel
theorem dX10_cameOf_79 : decode cX10_cameOf 79 = .ok (.ifCond .eq 7, 3) := by decide +kernel
theorem dX10_cameOf_82 : decode cX10_cameOf 82 = .ok (.iconst 1, 1) := by decide +kernel
theorem dX10_cameOf_83 : decode cX10_cameOf 83 = .ok (.goto 4, 3) := by decide +kernel
theorem dX10_cameOf_86 : decode cX10_cameOf 86 = .ok (.iconst 0, 1) := by decide +kernel
theorem dX10_cameOf_87 : decode cX10_cameOf 87 = .ok (.ior, 1) := by decide +kernel
theorem dX10_cameOf_88 : decode cX10_cameOf 88 = .ok (.bastore, 1) := by decide +kernel
theorem dX10_cameOf_89 : decode cX10_cameOf 89 = .ok (.iinc 6 1, 3) := by decide +kernel
theorem dX10_cameOf_92 : decode cX10_cameOf 92 = .ok (.goto (-41), 3) := by decide +kernel
theorem dX10_cameOf_95 : decode cX10_cameOf 95 = .ok (.iinc 3 1, 3) := by decide +kernel
theorem dX10_cameOf_98 : decode cX10_cameOf 98 = .ok (.goto (-85), 3) := by decide +kernel
theorem dX10_cameOf_101 : decode cX10_cameOf 101 = .ok (.aload_n 2, 1) := by decide +kernel
theorem dX10_cameOf_102 : decode cX10_cameOf 102 = .ok (.iload_n 1, 1) := by decide +kernel
theorem dX10_cameOf_103 : decode cX10_cameOf 103 = .ok (.iconst 0, 1) := by decide +kernel
theorem dX10_cameOf_104 : decode cX10_cameOf 104 = .ok (.bastore, 1) := by decide +kernel
theorem dX10_cameOf_105 : decode cX10_cameOf 105 = .ok (.aload_n 2, 1) := by decide +kernel
theorem dX10_cameOf_106 : decode cX10_cameOf 106 = .ok (.areturn, 1) := by decide +kernel
theorem dX10_checked_0 : decode cX10_checked 0 = .ok (.aload_n 0, 1) := by decide +kernel
theorem dX10_checked_1 : decode cX10_checked 1 = .ok (.getfield 31, 3) := by decide +kernel
theorem dX10_checked_4 : decode cX10_checked 4 = .ok (.iload_n 1, 1) := by decide +kernel
theorem dX10_checked_5 : decode cX10_checked 5 = .ok (.invokevirtual 121, 3) := by decide +kernel
theorem dX10_checked_8 : decode cX10_checked 8 = .ok (.checkcast 115, 3) := by decide +kernel
theorem dX10_checked_11 : decode cX10_checked 11 = .ok (.astore 4, 2) := by decide +kernel
theorem dX10_checked_13 : decode cX10_checked 13 = .ok (.aload_n 0, 1) := by decide +kernel
theorem dX10_checked_14 : decode cX10_checked 14 = .ok (.aload 4, 2) := by decide +kernel
theorem dX10_checked_16 : decode cX10_checked 16 = .ok (.getfield 181, 3) := by decide +kernel
theorem dX10_checked_19 : decode cX10_checked 19 = .ok (.invokevirtual 184, 3) := by decide +kernel
theorem dX10_checked_22 : decode cX10_checked 22 = .ok (.istore 5, 2) := by decide +kernel
theorem dX10_checked_24 : decode cX10_checked 24 = .ok (.iload 5, 2) := by decide +kernel
theorem dX10_checked_26 : decode cX10_checked 26 = .ok (.iconst (-1), 1) := by decide +kernel
theorem dX10_checked_27 : decode cX10_checked 27 = .ok (.if_icmp .ne 5, 3) := by decide +kernel
theorem dX10_checked_30 : decode cX10_checked 30 = .ok (.iconst 0, 1) := by decide +kernel
theorem dX10_checked_31 : decode cX10_checked 31 = .ok (.ireturn, 1) := by decide +kernel
theorem dX10_checked_32 : decode cX10_checked 32 = .ok (.aload_n 0, 1) := by decide +kernel
theorem dX10_checked_33 : decode cX10_checked 33 = .ok (.getfield 25, 3) := by decide +kernel
theorem dX10_checked_36 : decode cX10_checked 36 = .ok (.iload 5, 2) := by decide +kernel
theorem dX10_checked_38 : decode cX10_checked 38 = .ok (.invokevirtual 121, 3) := by decide +kernel
theorem dX10_checked_41 : decode cX10_checked 41 = .ok (.checkcast 85, 3) := by decide +kernel
theorem dX10_checked_44 : decode cX10_checked 44 = .ok (.dup, 1) := by decide +kernel
theorem dX10_checked_45 : decode cX10_checked 45 = .ok (.getfield 100, 3) := by decide +kernel
theorem dX10_checked_48 : decode cX10_checked 48 = .ok (.iconst 1, 1) := by decide +kernel
theorem dX10_checked_49 : decode cX10_checked 49 = .ok (.iadd, 1) := by decide +kernel
theorem dX10_checked_50 : decode cX10_checked 50 = .ok (.putfield 100, 3) := by decide +kernel
theorem dX10_checked_53 : decode cX10_checked 53 = .ok (.aload_n 0, 1) := by decide +kernel
theorem dX10_checked_54 : decode cX10_checked 54 = .ok (.iload 5, 2) := by decide +kernel
theorem dX10_checked_56 : decode cX10_checked 56 = .ok (.aload 4, 2) := by decide +kernel
theorem dX10_checked_58 : decode cX10_checked 58 = .ok (.getfield 117, 3) := by decide +kernel
theorem dX10_checked_61 : decode cX10_checked 61 = .ok (.aload_n 2, 1) := by decide +kernel
theorem dX10_checked_62 : decode cX10_checked 62 = .ok (.invokevirtual 187, 3) := by decide +kernel
theorem dX10_checked_65 : decode cX10_checked 65 = .ok (.istore 6, 2) := by decide +kernel
theorem dX10_checked_67 : decode cX10_checked 67 = .ok (.aload_n 0, 1) := by decide +kernel
theorem dX10_checked_68 : decode cX10_checked 68 = .ok (.getfield 25, 3) := by decide +kernel
theorem dX10_checked_71 : decode cX10_checked 71 = .ok (.aload 4, 2) := by decide +kernel
theorem dX10_checked_73 : decode cX10_checked 73 = .ok (.getfield 181, 3) := by decide +kernel
theorem dX10_checked_76 : decode cX10_checked 76 = .ok (.invokevirtual 121, 3) := by decide +kernel
theorem dX10_checked_79 : decode cX10_checked 79 = .ok (.checkcast 85, 3) := by decide +kernel
theorem dX10_checked_82 : decode cX10_checked 82 = .ok (.astore 7, 2) := by decide +kernel
theorem dX10_checked_84 : decode cX10_checked 84 = .ok (.iload 6, 2) := by decide +kernel
theorem dX10_checked_86 : decode cX10_checked 86 = .ok (.aload 4, 2) := by decide +kernel
theorem dX10_checked_88 : decode cX10_checked 88 = .ok (.getfield 191, 3) := by decide +kernel
theorem dX10_checked_91 : decode cX10_checked 91 = .ok (.if_icmp .ne 22, 3) := by decide +kernel
theorem dX10_checked_94 : decode cX10_checked 94 = .ok (.aload 7, 2) := by decide +kernel
theorem dX10_checked_96 : decode cX10_checked 96 = .ok (.bipush 100, 2) := by decide +kernel
theorem dX10_checked_98 : decode cX10_checked 98 = .ok (.aload 7, 2) := by decide +kernel
theorem dX10_checked_100 : decode cX10_checked 100 = .ok (.getfield 91, 3) := by decide +kernel
theorem dX10_checked_103 : decode cX10_checked 103 = .ok (.iconst 5, 1) := by decide +kernel
theorem dX10_checked_104 : decode cX10_checked 104 = .ok (.iadd, 1) := by decide +kernel
theorem dX10_checked_105 : decode cX10_checked 105 = .ok (.invokestatic 193, 3) := by decide +kernel
theorem dX10_checked_108 : decode cX10_checked 108 = .ok (.putfield 91, 3) := by decide +kernel
theorem dX10_checked_111 : decode cX10_checked 111 = .ok (.iconst 1, 1) := by decide +kernel
theorem dX10_checked_112 : decode cX10_checked 112 = .ok (.ireturn, 1) := by decide +kernel
theorem dX10_checked_113 : decode cX10_checked 113 = .ok (.aload_n 0, 1) := by decide +kernel
theorem dX10_checked_114 : decode cX10_checked 114 = .ok (.dup, 1) := by decide +kernel
theorem dX10_checked_115 : decode cX10_checked 115 = .ok (.getfield 135, 3) := by decide +kernel
theorem dX10_checked_118 : decode cX10_checked 118 = .ok (.iconst 1, 1) := by decide +kernel
theorem dX10_checked_119 : decode cX10_checked 119 = .ok (.iadd, 1) := by decide +kernel
theorem dX10_checked_120 : decode cX10_checked 120 = .ok (.putfield 135, 3) := by decide +kernel
theorem dX10_checked_123 : decode cX10_checked 123 = .ok (.iconst 0, 1) := by decide +kernel
theorem dX10_checked_124 : decode cX10_checked 124 = .ok (.istore 8, 2) := by decide +kernel
theorem dX10_checked_126 : decode cX10_checked 126 = .ok (.iconst 0, 1) := by decide +kernel
theorem dX10_checked_127 : decode cX10_checked 127 = .ok (.istore 9, 2) := by decide +kernel
theorem dX10_checked_129 : decode cX10_checked 129 = .ok (.iload 9, 2) := by decide +kernel
theorem dX10_checked_131 : decode cX10_checked 131 = .ok (.bipush 6, 2) := by decide +kernel
theorem dX10_checked_133 : decode cX10_checked 133 = .ok (.if_icmp .ge 59, 3) := by decide +kernel
theorem dX10_checked_136 : decode cX10_checked 136 = .ok (.iload 8, 2) := by decide +kernel
theorem dX10_checked_138 : decode cX10_checked 138 = .ok (.aload 4, 2) := by decide +kernel
theorem dX10_checked_140 : decode cX10_checked 140 = .ok (.getfield 117, 3) := by decide +kernel
theorem dX10_checked_143 : decode cX10_checked 143 = .ok (.getfield 63, 3) := by decide +kernel
theorem dX10_checked_146 : decode cX10_checked 146 = .ok (.iload 9, 2) := by decide +kernel
theorem dX10_checked_148 : decode cX10_checked 148 = .ok (.invokestatic 138, 3) := by decide +kernel
theorem dX10_checked_151 : decode cX10_checked 151 = .ok (.ifCond .eq 31, 3) := by decide +kernel
theorem dX10_checked_154 : decode cX10_checked 154 = .ok (.aload 4, 2) := by decide +kernel
theorem dX10_checked_156 : decode cX10_checked 156 = .ok (.getfield 177, 3) := by decide +kernel
theorem dX10_checked_159 : decode cX10_checked 159 = .ok (.getfield 148, 3) := by decide +kernel
theorem dX10_checked_162 : decode cX10_checked 162 = .ok (.iload 9, 2) := by decide +kernel
theorem dX10_checked_164 : decode cX10_checked 164 = .ok (.iaload, 1) := by decide +kernel
theorem dX10_checked_165 : decode cX10_checked 165 = .ok (.aload_n 0, 1) := by decide +kernel
theorem dX10_checked_166 : decode cX10_checked 166 = .ok (.getfield 22, 3) := by decide +kernel
theorem dX10_checked_169 : decode cX10_checked 169 = .ok (.iload 9, 2) := by decide +kernel
theorem dX10_checked_171 : decode cX10_checked 171 = .ok (.iaload, 1) := by decide +kernel
theorem dX10_checked_172 : decode cX10_checked 172 = .ok (.if_icmp .eq 10, 3) := by decide +kernel
theorem dX10_checked_175 : decode cX10_checked 175 = .ok (.iconst 1, 1) := by decide +kernel
theorem dX10_checked_176 : decode cX10_checked 176 = .ok (.iload 9, 2) := by decide +kernel
theorem dX10_checked_178 : decode cX10_checked 178 = .ok (.ishl, 1) := by decide +kernel
theorem dX10_checked_179 : decode cX10_checked 179 = .ok (.goto 4, 3) := by decide +kernel
theorem dX10_checked_182 : decode cX10_checked 182 = .ok (.iconst 0, 1) := by decide +kernel
theorem dX10_checked_183 : decode cX10_checked 183 = .ok (.ior, 1) := by decide +kernel
theorem dX10_checked_184 : decode cX10_checked 184 = .ok (.istore 8, 2) := by decide +kernel
theorem dX10_checked_186 : decode cX10_checked 186 = .ok (.iinc 9 1, 3) := by decide +kernel
theorem dX10_checked_189 : decode cX10_checked 189 = .ok (.goto (-60), 3) := by decide +kernel
theorem dX10_checked_192 : decode cX10_checked 192 = .ok (.iload 8, 2) := by decide +kernel
theorem dX10_checked_194 : decode cX10_checked 194 = .ok (.ifCond .le 84, 3) := by decide +kernel
theorem dX10_checked_197 : decode cX10_checked 197 = .ok (.aload 4, 2) := by decide +kernel
theorem dX10_checked_199 : decode cX10_checked 199 = .ok (.getfield 117, 3) := by decide +kernel
theorem dX10_checked_202 : decode cX10_checked 202 = .ok (.dup, 1) := by decide +kernel
theorem dX10_checked_203 : decode cX10_checked 203 = .ok (.getfield 63, 3) := by decide +kernel
theorem dX10_checked_206 : decode cX10_checked 206 = .ok (.iload 8, 2) := by decide +kernel
theorem dX10_checked_208 : decode cX10_checked 208 = .ok (.iconst (-1), 1) := by decide +kernel
theorem dX10_checked_209 : decode cX10_checked 209 = .ok (.ixor, 1) := by decide +kernel
theorem dX10_checked_210 : decode cX10_checked 210 = .ok (.iand, 1) := by decide +kernel
theorem dX10_checked_211 : decode cX10_checked 211 = .ok (.putfield 63, 3) := by decide +kernel
theorem dX10_checked_214 : decode cX10_checked 214 = .ok (.aload_n 0, 1) := by decide +kernel
theorem dX10_checked_215 : decode cX10_checked 215 = .ok (.getfield 31, 3) := by decide +kernel
theorem dX10_checked_218 : decode cX10_checked 218 = .ok (.invokevirtual 35, 3) := by decide +kernel
theorem dX10_checked_221 : decode cX10_checked 221 = .ok (.astore 9, 2) := by decide +kernel
theorem dX10_checked_223 : decode cX10_checked 223 = .ok (.aload 9, 2) := by decide +kernel
theorem dX10_checked_225 : decode cX10_checked 225 = .ok (.invokeinterface 39 1, 5) := by decide +kernel
theorem dX10_checked_230 : decode cX10_checked 230 = .ok (.ifCond .eq 45, 3) := by decide +kernel
theorem dX10_checked_233 : decode cX10_checked 233 = .ok (.aload 9, 2) := by decide +kernel
theorem dX10_checked_235 : decode cX10_checked 235 = .ok (.invokeinterface 45 1, 5) := by decide +kernel
theorem dX10_checked_240 : decode cX10_checked 240 = .ok (.checkcast 115, 3) := by decide +kernel
theorem dX10_checked_243 : decode cX10_checked 243 = .ok (.astore 10, 2) := by decide +kernel
theorem dX10_checked_245 : decode cX10_checked 245 = .ok (.aload 10, 2) := by decide +kernel
theorem dX10_checked_247 : decode cX10_checked 247 = .ok (.getfield 117, 3) := by decide +kernel
theorem dX10_checked_250 : decode cX10_checked 250 = .ok (.aload 4, 2) := by decide +kernel
theorem dX10_checked_252 : decode cX10_checked 252 = .ok (.getfield 117, 3) := by decide +kernel
theorem dX10_checked_255 : decode cX10_checked 255 = .ok (.if_acmp .ne 17, 3) := by decide +kernel
theorem dX10_checked_258 : decode cX10_checked 258 = .ok (.aload 10, 2) := by decide +kernel
theorem dX10_checked_260 : decode cX10_checked 260 = .ok (.getfield 163, 3) := by decide +kernel
theorem dX10_checked_263 : decode cX10_checked 263 = .ok (.ifCond .ne 9, 3) := by decide +kernel
theorem dX10_checked_266 : decode cX10_checked 266 = .ok (.aload 10, 2) := by decide +kernel
theorem dX10_checked_268 : decode cX10_checked 268 = .ok (.iconst 1, 1) := by decide +kernel
theorem dX10_checked_269 : decode cX10_checked 269 = .ok (.putfield 163, 3) := by decide +kernel
theorem dX10_checked_272 : decode cX10_checked 272 = .ok (.goto (-49), 3) := by decide +kernel
theorem dX10_checked_275 : decode cX10_checked 275 = .ok (.goto 20, 3) := by decide +kernel
theorem dX10_checked_278 : decode cX10_checked 278 = .ok (.aload 7, 2) := by decide +kernel
theorem dX10_checked_280 : decode cX10_checked 280 = .ok (.iconst 0, 1) := by decide +kernel
theorem dX10_checked_281 : decode cX10_checked 281 = .ok (.aload 7, 2) := by decide +kernel
theorem dX10_checked_283 : decode cX10_checked 283 = .ok (.getfield 91, 3) := by decide +kernel
theorem dX10_checked_286 : decode cX10_checked 286 = .ok (.bipush 30, 2) := by decide +kernel
theorem dX10_checked_288 : decode cX10_checked 288 = .ok (.isub, 1) := by decide +kernel
theorem dX10_checked_289 : decode cX10_checked 289 = .ok (.invokestatic 198, 3) := by decide +kernel
theorem dX10_checked_292 : decode cX10_checked 292 = .ok (.putfield 91, 3) := by decide +kernel
theorem dX10_checked_295 : decode cX10_checked 295 = .ok (.aload_n 0, 1) := by decide +kernel
theorem dX10_checked_296 : decode cX10_checked 296 = .ok (.iload_n 1, 1) := by decide +kernel
theorem dX10_checked_297 : decode cX10_checked 297 = .ok (.invokevirtual 201, 3) := by decide +kernel
theorem dX10_checked_300 : decode cX10_checked 300 = .ok (.astore 9, 2) := by decide +kernel
theorem dX10_checked_302 : decode cX10_checked 302 = .ok (.iconst 0, 1) := by decide +kernel
theorem dX10_checked_303 : decode cX10_checked 303 = .ok (.istore 10, 2) := by decide +kernel
theorem dX10_checked_305 : decode cX10_checked 305 = .ok (.iload 10, 2) := by decide +kernel
theorem dX10_checked_307 : decode cX10_checked 307 = .ok (.aload_n 0, 1) := by decide +kernel
theorem dX10_checked_308 : decode cX10_checked 308 = .ok (.getfield 31, 3) := by decide +kernel
theorem dX10_checked_311 : decode cX10_checked 311 = .ok (.invokevirtual 153, 3) := by decide +kernel
theorem dX10_checked_314 : decode cX10_checked 314 = .ok (.if_icmp .ge 39, 3) := by decide +kernel
theorem dX10_checked_317 : decode cX10_checked 317 = .ok (.iload 10, 2) := by decide +kernel
theorem dX10_checked_319 : decode cX10_checked 319 = .ok (.iload_n 1, 1) := by decide +kernel
theorem dX10_checked_320 : decode cX10_checked 320 = .ok (.if_icmp .eq 11, 3) := by decide +kernel
theorem dX10_checked_323 : decode cX10_checked 323 = .ok (.aload 9, 2) := by decide +kernel
theorem dX10_checked_325 : decode cX10_checked 325 = .ok (.iload 10, 2) := by decide +kernel
theorem dX10_checked_327 : decode cX10_checked 327 = .ok (.baload, 1) := by decide +kernel
theorem dX10_checked_328 : decode cX10_checked 328 = .ok (.ifCond .eq 19, 3) := by decide +kernel
theorem dX10_checked_331 : decode cX10_checked 331 = .ok (.aload_n 0, 1) := by decide +kernel
theorem dX10_checked_332 : decode cX10_checked 332 = .ok (.getfield 31, 3) := by decide +kernel
theorem dX10_checked_335 : decode cX10_checked 335 = .ok (.iload 10, 2) := by decide +kernel
theorem dX10_checked_337 : decode cX10_checked 337 = .ok (.invokevirtual 121, 3) := by decide +kernel
theorem dX10_checked_340 : decode cX10_checked 340 = .ok (.checkcast 115, 3) := by decide +kernel
theorem dX10_checked_343 : decode cX10_checked 343 = .ok (.iconst 2, 1) := by decide +kernel
theorem dX10_checked_344 : decode cX10_checked 344 = .ok (.putfield 163, 3) := by decide +kernel
theorem dX10_checked_347 : decode cX10_checked 347 = .ok (.iinc 10 1, 3) := by decide +kernel
theorem dX10_checked_350 : decode cX10_checked 350 = .ok (.goto (-45), 3) := by decide +kernel
theorem dX10_checked_353 : decode cX10_checked 353 = .ok (.aload_n 0, 1) := by decide +kernel
theorem dX10_checked_354 : decode cX10_checked 354 = .ok (.new 115, 3) := by decide +kernel
theorem dX10_checked_357 : decode cX10_checked 357 = .ok (.dup, 1) := by decide +kernel
theorem dX10_checked_358 : decode cX10_checked 358 = .ok (.aload 4, 2) := by decide +kernel
theorem dX10_checked_360 : decode cX10_checked 360 = .ok (.getfield 117, 3) := by decide +kernel
theorem dX10_checked_363 : decode cX10_checked 363 = .ok (.iload 5, 2) := by decide +kernel
theorem dX10_checked_365 : decode cX10_checked 365 = .ok (.iload_n 3, 1) := by decide +kernel
theorem dX10_checked_366 : decode cX10_checked 366 = .ok (.iload 6, 2) := by decide +kernel
theorem dX10_checked_368 : decode cX10_checked 368 = .ok (.aload_n 2, 1) := by decide +kernel
theorem dX10_checked_369 : decode cX10_checked 369 = .ok (.invokespecial 205, 3) := by decide +kernel
theorem dX10_checked_372 : decode cX10_checked 372 = .ok (.invokevirtual 208, 3) := by decide +kernel
theorem dX10_checked_375 : decode cX10_checked 375 = .ok (.ifCond .eq 7, 3) := by decide +kernel
theorem dX10_checked_378 : decode cX10_checked 378 = .ok (.iconst 2, 1) := by decide +kernel
theorem dX10_checked_379 : decode cX10_checked 379 = .ok (.goto 4, 3) := by decide +kernel
theorem dX10_checked_382 : decode cX10_checked 382 = .ok (.iconst 3, 1) := by decide +kernel
theorem dX10_checked_383 : decode cX10_checked 383 = .ok (.ireturn, 1) := by decide +kernel
theorem dX10_whole_0 : decode cX10_whole 0 = .ok (.iconst 1, 1) := by decide +kernel
theorem dX10_whole_1 : decode cX10_whole 1 = .ok (.iload_n 1, 1) := by decide +kernel
theorem dX10_whole_2 : decode cX10_whole 2 = .ok (.ishl, 1) := by decide +kernel
theorem dX10_whole_3 : decode cX10_whole 3 = .ok (.istore_n 2, 1) := by decide +kernel
theorem dX10_whole_4 : decode cX10_whole 4 = .ok (.iload_n 1, 1) := by decide +kernel
theorem dX10_whole_5 : decode cX10_whole 5 = .ok (.istore_n 3, 1) := by decide +kernel
theorem dX10_whole_6 : decode cX10_whole 6 = .ok (.iload_n 3, 1) := by decide +kernel
theorem dX10_whole_7 : decode cX10_whole 7 = .ok (.ifCond .lt 34, 3) := by decide +kernel
theorem dX10_whole_10 : decode cX10_whole 10 = .ok (.iload_n 2, 1) := by decide +kernel
theorem dX10_whole_11 : decode cX10_whole 11 = .ok (.iload_n 3, 1) := by decide +kernel
theorem dX10_whole_12 : decode cX10_whole 12 = .ok (.invokestatic 138, 3) := by decide +kernel
theorem dX10_whole_15 : decode cX10_whole 15 = .ok (.ifCond .eq 20, 3) := by decide +kernel
theorem dX10_whole_18 : decode cX10_whole 18 = .ok (.iload_n 2, 1) := by decide +kernel
theorem dX10_whole_19 : decode cX10_whole 19 = .ok (.aload_n 0, 1) := by decide +kernel
theorem dX10_whole_20 : decode cX10_whole 20 = .ok (.getfield 12, 3) := by decide +kernel
theorem dX10_whole_23 : decode cX10_whole 23 = .ok (.iload_n 3, 1) := by decide +kernel
theorem dX10_whole_24 : decode cX10_whole 24 = .ok (.invokevirtual 121, 3) := by decide +kernel
theorem dX10_whole_27 : decode cX10_whole 27 = .ok (.checkcast 49, 3) := by decide +kernel
theorem dX10_whole_30 : decode cX10_whole 30 = .ok (.getfield 58, 3) := by decide +kernel
theorem dX10_whole_33 : decode cX10_whole 33 = .ok (.ior, 1) := by decide +kernel
theorem dX10_whole_34 : decode cX10_whole 34 = .ok (.istore_n 2, 1) := by decide +kernel
theorem dX10_whole_35 : decode cX10_whole 35 = .ok (.iinc 3 (-1), 3) := by decide +kernel
theorem dX10_whole_38 : decode cX10_whole 38 = .ok (.goto (-32), 3) := by decide +kernel
theorem dX10_whole_41 : decode cX10_whole 41 = .ok (.iload_n 2, 1) := by decide +kernel
theorem dX10_whole_42 : decode cX10_whole 42 = .ok (.ireturn, 1) := by decide +kernel
theorem dX10_build_0 : decode cX10_build 0 = .ok (.aload_n 0, 1) := by decide +kernel
theorem dX10_build_1 : decode cX10_build 1 = .ok (.getfield 28, 3) := by decide +kernel
theorem dX10_build_4 : decode cX10_build 4 = .ok (.iload_n 1, 1) := by decide +kernel
theorem dX10_build_5 : decode cX10_build 5 = .ok (.invokevirtual 121, 3) := by decide +kernel
theorem dX10_build_8 : decode cX10_build 8 = .ok (.checkcast 103, 3) := by decide +kernel
theorem dX10_build_11 : decode cX10_build 11 = .ok (.dup, 1) := by decide +kernel
theorem dX10_build_12 : decode cX10_build 12 = .ok (.getfield 112, 3) := by decide +kernel
theorem dX10_build_15 : decode cX10_build 15 = .ok (.iconst 1, 1) := by decide +kernel
theorem dX10_build_16 : decode cX10_build 16 = .ok (.iadd, 1) := by decide +kernel
theorem dX10_build_17 : decode cX10_build 17 = .ok (.putfield 112, 3) := by decide +kernel
theorem dX10_build_20 : decode cX10_build 20 = .ok (.aload_n 0, 1) := by decide +kernel
theorem dX10_build_21 : decode cX10_build 21 = .ok (.iload_n 2, 1) := by decide +kernel
theorem dX10_build_22 : decode cX10_build 22 = .ok (.invokevirtual 212, 3) := by decide +kernel
theorem dX10_build_25 : decode cX10_build 25 = .ok (.istore_n 3, 1) := by decide +kernel
theorem dX10_build_26 : decode cX10_build 26 = .ok (.bipush 14, 2) := by decide +kernel
theorem dX10_build_28 : decode cX10_build 28 = .ok (.newarray .int, 2) := by decide +kernel
theorem dX10_build_30 : decode cX10_build 30 = .ok (.astore 4, 2) := by decide +kernel
theorem dX10_build_32 : decode cX10_build 32 = .ok (.bipush 14, 2) := by decide +kernel
theorem dX10_build_34 : decode cX10_build 34 = .ok (.newarray .int, 2) := by decide +kernel
theorem dX10_build_36 : decode cX10_build 36 = .ok (.astore 5, 2) := by decide +kernel
theorem dX10_build_38 : decode cX10_build 38 = .ok (.iconst 0, 1) := by decide +kernel
theorem dX10_build_39 : decode cX10_build 39 = .ok (.istore 6, 2) := by decide +kernel
theorem dX10_build_41 : decode cX10_build 41 = .ok (.iload 6, 2) := by decide +kernel
theorem dX10_build_43 : decode cX10_build 43 = .ok (.iload_n 2, 1) := by decide +kernel
theorem dX10_build_44 : decode cX10_build 44 = .ok (.if_icmp .gt 97, 3) := by decide +kernel
theorem dX10_build_47 : decode cX10_build 47 = .ok (.iload_n 3, 1) := by decide +kernel
theorem dX10_build_48 : decode cX10_build 48 = .ok (.iload 6, 2) := by decide +kernel
theorem dX10_build_50 : decode cX10_build 50 = .ok (.invokestatic 138, 3) := by decide +kernel
theorem dX10_build_53 : decode cX10_build 53 = .ok (.ifCond .ne 6, 3) := by decide +kernel
theorem dX10_build_56 : decode cX10_build 56 = .ok (.goto 79, 3) := by decide +kernel
theorem dX10_build_59 : decode cX10_build 59 = .ok (.aload 5, 2) := by decide +kernel
theorem dX10_build_61 : decode cX10_build 61 = .ok (.iload 6, 2) := by decide +kernel
theorem dX10_build_63 : decode cX10_build 63 = .ok (.aload_n 0, 1) := by decide +kernel
theorem dX10_build_64 : decode cX10_build 64 = .ok (.iload_n 1, 1) := by decide +kernel
theorem dX10_build_65 : decode cX10_build 65 = .ok (.aload_n 0, 1) := by decide +kernel
theorem dX10_build_66 : decode cX10_build 66 = .ok (.getfield 12, 3) := by decide +kernel
theorem dX10_build_69 : decode cX10_build 69 = .ok (.iload 6, 2) := by decide +kernel
theorem dX10_build_71 : decode cX10_build 71 = .ok (.invokevirtual 121, 3) := by decide +kernel
theorem dX10_build_74 : decode cX10_build 74 = .ok (.checkcast 49, 3) := by decide +kernel
theorem dX10_build_77 : decode cX10_build 77 = .ok (.aload_n 0, 1) := by decide +kernel
theorem dX10_build_78 : decode cX10_build 78 = .ok (.aload_n 0, 1) := by decide +kernel
theorem dX10_build_79 : decode cX10_build 79 = .ok (.getfield 12, 3) := by decide +kernel
theorem dX10_build_82 : decode cX10_build 82 = .ok (.iload 6, 2) := by decide +kernel
theorem dX10_build_84 : decode cX10_build 84 = .ok (.invokevirtual 121, 3) := by decide +kernel
theorem dX10_build_87 : decode cX10_build 87 = .ok (.checkcast 49, 3) := by decide +kernel
theorem dX10_build_90 : decode cX10_build 90 = .ok (.aload 4, 2) := by decide +kernel
theorem dX10_build_92 : decode cX10_build 92 = .ok (.aload 5, 2) := by decide +kernel
theorem dX10_build_94 : decode cX10_build 94 = .ok (.invokevirtual 215, 3) := by decide +kernel
theorem dX10_build_97 : decode cX10_build 97 = .ok (.invokevirtual 219, 3) := by decide +kernel
theorem dX10_build_100 : decode cX10_build 100 = .ok (.iastore, 1) := by decide +kernel
theorem dX10_build_101 : decode cX10_build 101 = .ok (.aload 5, 2) := by decide +kernel
theorem dX10_build_103 : decode cX10_build 103 = .ok (.iload 6, 2) := by decide +kernel
theorem dX10_build_105 : decode cX10_build 105 = .ok (.iaload, 1) := by decide +kernel
theorem dX10_build_106 : decode cX10_build 106 = .ok (.iconst (-1), 1) := by decide +kernel
theorem dX10_build_107 : decode cX10_build 107 = .ok (.if_icmp .ne 5, 3) := by decide +kernel
theorem dX10_build_110 : decode cX10_build 110 = .ok (.iconst (-1), 1) := by decide +kernel
theorem dX10_build_111 : decode cX10_build 111 = .ok (.ireturn, 1) := by decide +kernel
theorem dX10_build_112 : decode cX10_build 112 = .ok (.aload 4, 2) := by decide +kernel
theorem dX10_build_114 : decode cX10_build 114 = .ok (.iload 6, 2) := by decide +kernel
theorem dX10_build_116 : decode cX10_build 116 = .ok (.aload_n 0, 1) := by decide +kernel
theorem dX10_build_117 : decode cX10_build 117 = .ok (.getfield 31, 3) := by decide +kernel
theorem dX10_build_120 : decode cX10_build 120 = .ok (.aload 5, 2) := by decide +kernel
theorem dX10_build_122 : decode cX10_build 122 = .ok (.iload 6, 2) := by decide +kernel
theorem dX10_build_124 : decode cX10_build 124 = .ok (.iaload, 1) := by decide +kernel
theorem dX10_build_125 : decode cX10_build 125 = .ok (.invokevirtual 121, 3) := by decide +kernel
theorem dX10_build_128 : decode cX10_build 128 = .ok (.checkcast 115, 3) := by decide +kernel
theorem dX10_build_131 : decode cX10_build 131 = .ok (.getfield 191, 3) := by decide +kernel
theorem dX10_build_134 : decode cX10_build 134 = .ok (.iastore, 1) := by decide +kernel
theorem dX10_build_135 : decode cX10_build 135 = .ok (.iinc 6 1, 3) := by decide +kernel
theorem dX10_build_138 : decode cX10_build 138 = .ok (.goto (-97), 3) := by decide +kernel
theorem dX10_build_141 : decode cX10_build 141 = .ok (.aload 4, 2) := by decide +kernel
theorem dX10_build_143 : decode cX10_build 143 = .ok (.iload_n 2, 1) := by decide +kernel
theorem dX10_build_144 : decode cX10_build 144 = .ok (.iaload, 1) := by decide +kernel
theorem dX10_build_145 : decode cX10_build 145 = .ok (.ireturn, 1) := by decide +kernel
theorem dX10_got_0 : decode cX10_got 0 = .ok (.iconst 0, 1) := by decide +kernel
theorem dX10_got_1 : decode cX10_got 1 = .ok (.istore 4, 2) := by decide +kernel
theorem dX10_got_3 : decode cX10_got 3 = .ok (.iload 4, 2) := by decide +kernel
theorem dX10_got_5 : decode cX10_got 5 = .ok (.aload_n 0, 1) := by decide +kernel
theorem dX10_got_6 : decode cX10_got 6 = .ok (.getfield 31, 3) := by decide +kernel
theorem dX10_got_9 : decode cX10_got 9 = .ok (.invokevirtual 153, 3) := by decide +kernel
theorem dX10_got_12 : decode cX10_got 12 = .ok (.if_icmp .ge 160, 3) := by decide +kernel
theorem dX10_got_15 : decode cX10_got 15 = .ok (.aload_n 0, 1) := by decide +kernel
theorem dX10_got_16 : decode cX10_got 16 = .ok (.getfield 31, 3) := by decide +kernel
theorem dX10_got_19 : decode cX10_got 19 = .ok (.iload 4, 2) := by decide +kernel
theorem dX10_got_21 : decode cX10_got 21 = .ok (.invokevirtual 121, 3) := by decide +kernel
theorem dX10_got_24 : decode cX10_got 24 = .ok (.checkcast 115, 3) := by decide +kernel
theorem dX10_got_27 : decode cX10_got 27 = .ok (.astore 5, 2) := by decide +kernel
theorem dX10_got_29 : decode cX10_got 29 = .ok (.aload 5, 2) := by decide +kernel
theorem dX10_got_31 : decode cX10_got 31 = .ok (.getfield 117, 3) := by decide +kernel
theorem dX10_got_34 : decode cX10_got 34 = .ok (.aload_n 2, 1) := by decide +kernel
theorem dX10_got_35 : decode cX10_got 35 = .ok (.if_acmp .ne 131, 3) := by decide +kernel
theorem dX10_got_38 : decode cX10_got 38 = .ok (.aload 5, 2) := by decide +kernel
theorem dX10_got_40 : decode cX10_got 40 = .ok (.getfield 163, 3) := by decide +kernel
theorem dX10_got_43 : decode cX10_got 43 = .ok (.ifCond .ne 123, 3) := by decide +kernel
theorem dX10_got_46 : decode cX10_got 46 = .ok (.aload 5, 2) := by decide +kernel
theorem dX10_got_48 : decode cX10_got 48 = .ok (.aload_n 3, 1) := by decide +kernel
theorem dX10_got_49 : decode cX10_got 49 = .ok (.invokevirtual 222, 3) := by decide +kernel
theorem dX10_got_52 : decode cX10_got 52 = .ok (.ifCond .ne 6, 3) := by decide +kernel
theorem dX10_got_55 : decode cX10_got 55 = .ok (.goto 111, 3) := by decide +kernel
theorem dX10_got_58 : decode cX10_got 58 = .ok (.aload 5, 2) := by decide +kernel
theorem dX10_got_60 : decode cX10_got 60 = .ok (.dup, 1) := by decide +kernel
theorem dX10_got_61 : decode cX10_got 61 = .ok (.getfield 226, 3) := by decide +kernel
theorem dX10_got_64 : decode cX10_got 64 = .ok (.iconst 1, 1) := by decide +kernel
theorem dX10_got_65 : decode cX10_got 65 = .ok (.iadd, 1) := by decide +kernel
theorem dX10_got_66 : decode cX10_got 66 = .ok (.putfield 226, 3) := by decide +kernel
theorem dX10_got_69 : decode cX10_got 69 = .ok (.aload_n 0, 1) := by decide +kernel
theorem dX10_got_70 : decode cX10_got 70 = .ok (.dup, 1) := by decide +kernel
theorem dX10_got_71 : decode cX10_got 71 = .ok (.getfield 132, 3) := by decide +kernel
theorem dX10_got_74 : decode cX10_got 74 = .ok (.iconst 1, 1) := by decide +kernel
theorem dX10_got_75 : decode cX10_got 75 = .ok (.iadd, 1) := by decide +kernel
theorem dX10_got_76 : decode cX10_got 76 = .ok (.putfield 132, 3) := by decide +kernel
theorem dX10_got_79 : decode cX10_got 79 = .ok (.aload_n 0, 1) := by decide +kernel
theorem dX10_got_80 : decode cX10_got 80 = .ok (.getfield 28, 3) := by decide +kernel
theorem dX10_got_83 : decode cX10_got 83 = .ok (.iload_n 1, 1) := by decide +kernel
theorem dX10_got_84 : decode cX10_got 84 = .ok (.invokevirtual 121, 3) := by decide +kernel
theorem dX10_got_87 : decode cX10_got 87 = .ok (.checkcast 103, 3) := by decide +kernel
theorem dX10_got_90 : decode cX10_got 90 = .ok (.dup, 1) := by decide +kernel
theorem dX10_got_91 : decode cX10_got 91 = .ok (.getfield 109, 3) := by decide +kernel
theorem dX10_got_94 : decode cX10_got 94 = .ok (.aload_n 2, 1) := by decide +kernel
theorem dX10_got_95 : decode cX10_got 95 = .ok (.getfield 66, 3) := by decide +kernel
theorem dX10_got_98 : decode cX10_got 98 = .ok (.iadd, 1) := by decide +kernel
theorem dX10_got_99 : decode cX10_got 99 = .ok (.putfield 109, 3) := by decide +kernel
theorem dX10_got_102 : decode cX10_got 102 = .ok (.aload_n 0, 1) := by decide +kernel
theorem dX10_got_103 : decode cX10_got 103 = .ok (.getfield 129, 3) := by decide +kernel
theorem dX10_got_106 : decode cX10_got 106 = .ok (.ifCond .le 26, 3) := by decide +kernel
theorem dX10_got_109 : decode cX10_got 109 = .ok (.aload_n 0, 1) := by decide +kernel
theorem dX10_got_110 : decode cX10_got 110 = .ok (.getfield 132, 3) := by decide +kernel
theorem dX10_got_113 : decode cX10_got 113 = .ok (.aload_n 0, 1) := by decide +kernel
theorem dX10_got_114 : decode cX10_got 114 = .ok (.getfield 129, 3) := by decide +kernel
theorem dX10_got_117 : decode cX10_got 117 = .ok (.irem, 1) := by decide +kernel
theorem dX10_got_118 : decode cX10_got 118 = .ok (.ifCond .ne 14, 3) := by decide +kernel
theorem dX10_got_121 : decode cX10_got 121 = .ok (.aload_n 0, 1) := by decide +kernel
theorem dX10_got_122 : decode cX10_got 122 = .ok (.iload 4, 2) := by decide +kernel
theorem dX10_got_124 : decode cX10_got 124 = .ok (.aload_n 3, 1) := by decide +kernel
theorem dX10_got_125 : decode cX10_got 125 = .ok (.iload_n 1, 1) := by decide +kernel
theorem dX10_got_126 : decode cX10_got 126 = .ok (.invokevirtual 227, 3) := by decide +kernel
theorem dX10_got_129 : decode cX10_got 129 = .ok (.goto 4, 3) := by decide +kernel
theorem dX10_got_132 : decode cX10_got 132 = .ok (.iconst 0, 1) := by decide +kernel
theorem dX10_got_133 : decode cX10_got 133 = .ok (.istore 6, 2) := by decide +kernel
theorem dX10_got_135 : decode cX10_got 135 = .ok (.iload 6, 2) := by decide +kernel
theorem dX10_got_137 : decode cX10_got 137 = .ok (.iconst 3, 1) := by decide +kernel
theorem dX10_got_138 : decode cX10_got 138 = .ok (.if_icmp .ne 7, 3) := by decide +kernel
theorem dX10_got_141 : decode cX10_got 141 = .ok (.iconst (-1), 1) := by decide +kernel
theorem dX10_got_142 : decode cX10_got 142 = .ok (.goto 23, 3) := by decide +kernel
theorem dX10_got_145 : decode cX10_got 145 = .ok (.iload 6, 2) := by decide +kernel
theorem dX10_got_147 : decode cX10_got 147 = .ok (.iconst 2, 1) := by decide +kernel
theorem dX10_got_148 : decode cX10_got 148 = .ok (.if_icmp .ne 15, 3) := by decide +kernel
theorem dX10_got_151 : decode cX10_got 151 = .ok (.aload_n 0, 1) := by decide +kernel
theorem dX10_got_152 : decode cX10_got 152 = .ok (.getfield 31, 3) := by decide +kernel
theorem dX10_got_155 : decode cX10_got 155 = .ok (.invokevirtual 153, 3) := by decide +kernel
theorem dX10_got_158 : decode cX10_got 158 = .ok (.iconst 1, 1) := by decide +kernel
theorem dX10_got_159 : decode cX10_got 159 = .ok (.isub, 1) := by decide +kernel
theorem dX10_got_160 : decode cX10_got 160 = .ok (.goto 5, 3) := by decide +kernel
theorem dX10_got_163 : decode cX10_got 163 = .ok (.iload 4, 2) := by decide +kernel
theorem dX10_got_165 : decode cX10_got 165 = .ok (.ireturn, 1) := by decide +kernel
theorem dX10_got_166 : decode cX10_got 166 = .ok (.iinc 4 1, 3) := by decide +kernel
theorem dX10_got_169 : decode cX10_got 169 = .ok (.goto (-166), 3) := by decide +kernel
theorem dX10_got_172 : decode cX10_got 172 = .ok (.aload_n 0, 1) := by decide +kernel
theorem dX10_got_173 : decode cX10_got 173 = .ok (.iconst (-1), 1) := by decide +kernel
theorem dX10_got_174 : decode cX10_got 174 = .ok (.invokevirtual 184, 3) := by decide +kernel
theorem dX10_got_177 : decode cX10_got 177 = .ok (.istore 4, 2) := by decide +kernel
theorem dX10_got_179 : decode cX10_got 179 = .ok (.iload 4, 2) := by decide +kernel
theorem dX10_got_181 : decode cX10_got 181 = .ok (.iconst (-1), 1) := by decide +kernel
theorem dX10_got_182 : decode cX10_got 182 = .ok (.if_icmp .ne 5, 3) := by decide +kernel
theorem dX10_got_185 : decode cX10_got 185 = .ok (.iconst (-1), 1) := by decide +kernel
theorem dX10_got_186 : decode cX10_got 186 = .ok (.ireturn, 1) := by decide +kernel
theorem dX10_got_187 : decode cX10_got 187 = .ok (.aload_n 0, 1) := by decide +kernel
theorem dX10_got_188 : decode cX10_got 188 = .ok (.iload 4, 2) := by decide +kernel
theorem dX10_got_190 : decode cX10_got 190 = .ok (.aload_n 2, 1) := by decide +kernel
theorem dX10_got_191 : decode cX10_got 191 = .ok (.aload_n 3, 1) := by decide +kernel
theorem dX10_got_192 : decode cX10_got 192 = .ok (.invokevirtual 187, 3) := by decide +kernel
theorem dX10_got_195 : decode cX10_got 195 = .ok (.istore 5, 2) := by decide +kernel
theorem dX10_got_197 : decode cX10_got 197 = .ok (.aload_n 0, 1) := by decide +kernel
theorem dX10_got_198 : decode cX10_got 198 = .ok (.new 115, 3) := by decide +kernel
theorem dX10_got_201 : decode cX10_got 201 = .ok (.dup, 1) := by decide +kernel
theorem dX10_got_202 : decode cX10_got 202 = .ok (.aload_n 2, 1) := by decide +kernel
theorem dX10_got_203 : decode cX10_got 203 = .ok (.iload 4, 2) := by decide +kernel
theorem dX10_got_205 : decode cX10_got 205 = .ok (.iload_n 1, 1) := by decide +kernel
theorem dX10_got_206 : decode cX10_got 206 = .ok (.iload 5, 2) := by decide +kernel
theorem dX10_got_208 : decode cX10_got 208 = .ok (.aload_n 3, 1) := by decide +kernel
theorem dX10_got_209 : decode cX10_got 209 = .ok (.invokespecial 205, 3) := by decide +kernel
theorem dX10_got_212 : decode cX10_got 212 = .ok (.invokevirtual 208, 3) := by decide +kernel
theorem dX10_got_215 : decode cX10_got 215 = .ok (.ifCond .eq 15, 3) := by decide +kernel
theorem dX10_got_218 : decode cX10_got 218 = .ok (.aload_n 0, 1) := by decide +kernel
theorem dX10_got_219 : decode cX10_got 219 = .ok (.getfield 31, 3) := by decide +kernel
theorem dX10_got_222 : decode cX10_got 222 = .ok (.invokevirtual 153, 3) := by decide +kernel
theorem dX10_got_225 : decode cX10_got 225 = .ok (.iconst 1, 1) := by decide +kernel
theorem dX10_got_226 : decode cX10_got 226 = .ok (.isub, 1) := by decide +kernel
theorem dX10_got_227 : decode cX10_got 227 = .ok (.goto 4, 3) := by decide +kernel
theorem dX10_got_230 : decode cX10_got 230 = .ok (.iconst (-1), 1) := by decide +kernel
theorem dX10_got_231 : decode cX10_got 231 = .ok (.ireturn, 1) := by decide +kernel
theorem dX10_would_0 : decode cX10_would 0 = .ok (.aload_n 0, 1) := by decide +kernel
theorem dX10_would_1 : decode cX10_would 1 = .ok (.iload_n 1, 1) := by decide +kernel
theorem dX10_would_2 : decode cX10_would 2 = .ok (.invokevirtual 212, 3) := by decide +kernel
theorem dX10_would_5 : decode cX10_would 5 = .ok (.istore_n 2, 1) := by decide +kernel
theorem dX10_would_6 : decode cX10_would 6 = .ok (.bipush 14, 2) := by decide +kernel
theorem dX10_would_8 : decode cX10_would 8 = .ok (.newarray .int, 2) := by decide +kernel
theorem dX10_would_10 : decode cX10_would 10 = .ok (.astore_n 3, 1) := by decide +kernel
theorem dX10_would_11 : decode cX10_would 11 = .ok (.iconst 0, 1) := by decide +kernel
theorem dX10_would_12 : decode cX10_would 12 = .ok (.istore 4, 2) := by decide +kernel
theorem dX10_would_14 : decode cX10_would 14 = .ok (.iload 4, 2) := by decide +kernel
theorem dX10_would_16 : decode cX10_would 16 = .ok (.iload_n 1, 1) := by decide +kernel
theorem dX10_would_17 : decode cX10_would 17 = .ok (.if_icmp .gt 60, 3) := by decide +kernel
theorem dX10_would_20 : decode cX10_would 20 = .ok (.aload_n 3, 1) := by decide +kernel
theorem dX10_would_21 : decode cX10_would 21 = .ok (.iload 4, 2) := by decide +kernel
theorem dX10_would_23 : decode cX10_would 23 = .ok (.iload_n 2, 1) := by decide +kernel
theorem dX10_would_24 : decode cX10_would 24 = .ok (.iload 4, 2) := by decide +kernel
theorem dX10_would_26 : decode cX10_would 26 = .ok (.invokestatic 138, 3) := by decide +kernel
theorem dX10_would_29 : decode cX10_would 29 = .ok (.ifCond .eq 40, 3) := by decide +kernel
theorem dX10_would_32 : decode cX10_would 32 = .ok (.aload_n 0, 1) := by decide +kernel
theorem dX10_would_33 : decode cX10_would 33 = .ok (.aload_n 0, 1) := by decide +kernel
theorem dX10_would_34 : decode cX10_would 34 = .ok (.getfield 12, 3) := by decide +kernel
theorem dX10_would_37 : decode cX10_would 37 = .ok (.iload 4, 2) := by decide +kernel
theorem dX10_would_39 : decode cX10_would 39 = .ok (.invokevirtual 121, 3) := by decide +kernel
theorem dX10_would_42 : decode cX10_would 42 = .ok (.checkcast 49, 3) := by decide +kernel
theorem dX10_would_45 : decode cX10_would 45 = .ok (.aload_n 0, 1) := by decide +kernel
theorem dX10_would_46 : decode cX10_would 46 = .ok (.aload_n 0, 1) := by decide +kernel
theorem dX10_would_47 : decode cX10_would 47 = .ok (.getfield 12, 3) := by decide +kernel
theorem dX10_would_50 : decode cX10_would 50 = .ok (.iload 4, 2) := by decide +kernel
theorem dX10_would_52 : decode cX10_would 52 = .ok (.invokevirtual 121, 3) := by decide +kernel
theorem dX10_would_55 : decode cX10_would 55 = .ok (.checkcast 49, 3) := by decide +kernel
theorem dX10_would_58 : decode cX10_would 58 = .ok (.aload_n 3, 1) := by decide +kernel
theorem dX10_would_59 : decode cX10_would 59 = .ok (.aload_n 3, 1) := by decide +kernel
theorem dX10_would_60 : decode cX10_would 60 = .ok (.invokevirtual 215, 3) := by decide +kernel
theorem dX10_would_63 : decode cX10_would 63 = .ok (.invokevirtual 156, 3) := by decide +kernel
theorem dX10_would_66 : decode cX10_would 66 = .ok (.goto 4, 3) := by decide +kernel
theorem dX10_would_69 : decode cX10_would 69 = .ok (.iconst 0, 1) := by decide +kernel
theorem dX10_would_70 : decode cX10_would 70 = .ok (.iastore, 1) := by decide +kernel
theorem dX10_would_71 : decode cX10_would 71 = .ok (.iinc 4 1, 3) := by decide +kernel
theorem dX10_would_74 : decode cX10_would 74 = .ok (.goto (-60), 3) := by decide +kernel
theorem dX10_would_77 : decode cX10_would 77 = .ok (.aload_n 3, 1) := by decide +kernel
theorem dX10_would_78 : decode cX10_would 78 = .ok (.iload_n 1, 1) := by decide +kernel
theorem dX10_would_79 : decode cX10_would 79 = .ok (.iaload, 1) := by decide +kernel
theorem dX10_would_80 : decode cX10_would 80 = .ok (.ireturn, 1) := by decide +kernel
theorem dX10_runs_0 : decode cX10_runs 0 = .ok (.iconst 0, 1) := by decide +kernel
theorem dX10_runs_1 : decode cX10_runs 1 = .ok (.istore_n 1, 1) := by decide +kernel
theorem dX10_runs_2 : decode cX10_runs 2 = .ok (.aload_n 0, 1) := by decide +kernel
theorem dX10_runs_3 : decode cX10_runs 3 = .ok (.getfield 25, 3) := by decide +kernel
theorem dX10_runs_6 : decode cX10_runs 6 = .ok (.invokevirtual 35, 3) := by decide +kernel
theorem dX10_runs_9 : decode cX10_runs 9 = .ok (.astore_n 2, 1) := by decide +kernel
theorem dX10_runs_10 : decode cX10_runs 10 = .ok (.aload_n 2, 1) := by decide +kernel
theorem dX10_runs_11 : decode cX10_runs 11 = .ok (.invokeinterface 39 1, 5) := by decide +kernel
theorem dX10_runs_16 : decode cX10_runs 16 = .ok (.ifCond .eq 23, 3) := by decide +kernel
theorem dX10_runs_19 : decode cX10_runs 19 = .ok (.aload_n 2, 1) := by decide +kernel
theorem dX10_runs_20 : decode cX10_runs 20 = .ok (.invokeinterface 45 1, 5) := by decide +kernel
theorem dX10_runs_25 : decode cX10_runs 25 = .ok (.checkcast 85, 3) := by decide +kernel
theorem dX10_runs_28 : decode cX10_runs 28 = .ok (.astore_n 3, 1) := by decide +kernel
theorem dX10_runs_29 : decode cX10_runs 29 = .ok (.iload_n 1, 1) := by decide +kernel
theorem dX10_runs_30 : decode cX10_runs 30 = .ok (.aload_n 3, 1) := by decide +kernel
theorem dX10_runs_31 : decode cX10_runs 31 = .ok (.getfield 94, 3) := by decide +kernel
theorem dX10_runs_34 : decode cX10_runs 34 = .ok (.iadd, 1) := by decide +kernel
theorem dX10_runs_35 : decode cX10_runs 35 = .ok (.istore_n 1, 1) := by decide +kernel
theorem dX10_runs_36 : decode cX10_runs 36 = .ok (.goto (-26), 3) := by decide +kernel
theorem dX10_runs_39 : decode cX10_runs 39 = .ok (.iload_n 1, 1) := by decide +kernel
theorem dX10_runs_40 : decode cX10_runs 40 = .ok (.ireturn, 1) := by decide +kernel
theorem dX11_init_0 : decode cX11_init 0 = .ok (.aload_n 0, 1) := by decide +kernel
theorem dX11_init_1 : decode cX11_init 1 = .ok (.invokespecial 3, 3) := by decide +kernel
theorem dX11_init_4 : decode cX11_init 4 = .ok (.aload_n 0, 1) := by decide +kernel
theorem dX11_init_5 : decode cX11_init 5 = .ok (.bipush 8, 2) := by decide +kernel
theorem dX11_init_7 : decode cX11_init 7 = .ok (.newarray .int, 2) := by decide +kernel
theorem dX11_init_9 : decode cX11_init 9 = .ok (.putfield 9, 3) := by decide +kernel
theorem dX11_init_12 : decode cX11_init 12 = .ok (.aload_n 0, 1) := by decide +kernel
theorem dX11_init_13 : decode cX11_init 13 = .ok (.bipush 14, 2) := by decide +kernel
theorem dX11_init_15 : decode cX11_init 15 = .ok (.newarray .int, 2) := by decide +kernel
theorem dX11_init_17 : decode cX11_init 17 = .ok (.putfield 15, 3) := by decide +kernel
theorem dX11_init_20 : decode cX11_init 20 = .ok (.aload_n 0, 1) := by decide +kernel
theorem dX11_init_21 : decode cX11_init 21 = .ok (.bipush 14, 2) := by decide +kernel
theorem dX11_init_23 : decode cX11_init 23 = .ok (.newarray .int, 2) := by decide +kernel
theorem dX11_init_25 : decode cX11_init 25 = .ok (.putfield 18, 3) := by decide +kernel
theorem dX11_init_28 : decode cX11_init 28 = .ok (.aload_n 0, 1) := by decide +kernel
theorem dX11_init_29 : decode cX11_init 29 = .ok (.bipush 6, 2) := by decide +kernel
theorem dX11_init_31 : decode cX11_init 31 = .ok (.newarray .int, 2) := by decide +kernel
theorem dX11_init_33 : decode cX11_init 33 = .ok (.putfield 21, 3) := by decide +kernel
theorem dX11_init_36 : decode cX11_init 36 = .ok (.return_, 1) := by decide +kernel
theorem dX12_init_0 : decode cX12_init 0 = .ok (.aload_n 0, 1) := by decide +kernel
theorem dX12_init_1 : decode cX12_init 1 = .ok (.invokespecial 1, 3) := by decide +kernel
theorem dX12_init_4 : decode cX12_init 4 = .ok (.return_, 1) := by decide +kernel
theorem dX13_init_0 : decode cX13_init 0 = .ok (.aload_n 0, 1) := by decide +kernel
theorem dX13_init_1 : decode cX13_init 1 = .ok (.invokespecial 3, 3) := by decide +kernel
theorem dX13_init_4 : decode cX13_init 4 = .ok (.aload_n 0, 1) := by decide +kernel
theorem dX13_init_5 : decode cX13_init 5 = .ok (.bipush 50, 2) := by decide +kernel
theorem dX13_init_7 : decode cX13_init 7 = .ok (.putfield 9, 3) := by decide +kernel
theorem dX13_init_10 : decode cX13_init 10 = .ok (.return_, 1) := by decide +kernel
theorem dX14_init_0 : decode cX14_init 0 = .ok (.aload_n 0, 1) := by decide +kernel
theorem dX14_init_1 : decode cX14_init 1 = .ok (.invokespecial 1, 3) := by decide +kernel
theorem dX14_init_4 : decode cX14_init 4 = .ok (.aload_n 0, 1) := by decide +kernel
theorem dX14_init_5 : decode cX14_init 5 = .ok (.new 7, 3) := by decide +kernel
theorem dX14_init_8 : decode cX14_init 8 = .ok (.dup, 1) := by decide +kernel
theorem dX14_init_9 : decode cX14_init 9 = .ok (.invokespecial 9, 3) := by decide +kernel
theorem dX14_init_12 : decode cX14_init 12 = .ok (.putfield 10, 3) := by decide +kernel
theorem dX14_init_15 : decode cX14_init 15 = .ok (.return_, 1) := by decide +kernel
theorem dX14_thrown_0 : decode cX14_thrown 0 = .ok (.aload_n 0, 1) := by decide +kernel
theorem dX14_thrown_1 : decode cX14_thrown 1 = .ok (.getfield 16, 3) := by decide +kernel
theorem dX14_thrown_4 : decode cX14_thrown 4 = .ok (.ireturn, 1) := by decide +kernel
theorem dX14_refuse_0 : decode cX14_refuse 0 = .ok (.aload_n 0, 1) := by decide +kernel
theorem dX14_refuse_1 : decode cX14_refuse 1 = .ok (.iload_n 1, 1) := by decide +kernel
theorem dX14_refuse_2 : decode cX14_refuse 2 = .ok (.putfield 16, 3) := by decide +kernel
theorem dX14_refuse_5 : decode cX14_refuse 5 = .ok (.iconst 0, 1) := by decide +kernel
theorem dX14_refuse_6 : decode cX14_refuse 6 = .ok (.ireturn, 1) := by decide +kernel
theorem dX14_is_0 : decode cX14_is 0 = .ok (.iload_n 0, 1) := by decide +kernel
theorem dX14_is_1 : decode cX14_is 1 = .ok (.iload_n 1, 1) := by decide +kernel
theorem dX14_is_2 : decode cX14_is 2 = .ok (.if_icmp .lt 12, 3) := by decide +kernel
theorem dX14_is_5 : decode cX14_is 5 = .ok (.iload_n 0, 1) := by decide +kernel
theorem dX14_is_6 : decode cX14_is 6 = .ok (.iload_n 2, 1) := by decide +kernel
theorem dX14_is_7 : decode cX14_is 7 = .ok (.if_icmp .gt 7, 3) := by decide +kernel
theorem dX14_is_10 : decode cX14_is 10 = .ok (.iconst 1, 1) := by decide +kernel
theorem dX14_is_11 : decode cX14_is 11 = .ok (.goto 4, 3) := by decide +kernel
theorem dX14_is_14 : decode cX14_is 14 = .ok (.iconst 0, 1) := by decide +kernel
theorem dX14_is_15 : decode cX14_is 15 = .ok (.ireturn, 1) := by decide +kernel
theorem dX14_has_0 : decode cX14_has 0 = .ok (.iload_n 0, 1) := by decide +kernel
theorem dX14_has_1 : decode cX14_has 1 = .ok (.iload_n 1, 1) := by decide +kernel
theorem dX14_has_2 : decode cX14_has 2 = .ok (.ishr, 1) := by decide +kernel
theorem dX14_has_3 : decode cX14_has 3 = .ok (.iconst 1, 1) := by decide +kernel
theorem dX14_has_4 : decode cX14_has 4 = .ok (.iand, 1) := by decide +kernel
theorem dX14_has_5 : decode cX14_has 5 = .ok (.iconst 1, 1) := by decide +kernel
theorem dX14_has_6 : decode cX14_has 6 = .ok (.if_icmp .ne 7, 3) := by decide +kernel
theorem dX14_has_9 : decode cX14_has 9 = .ok (.iconst 1, 1) := by decide +kernel
theorem dX14_has_10 : decode cX14_has 10 = .ok (.goto 4, 3) := by decide +kernel
theorem dX14_has_13 : decode cX14_has 13 = .ok (.iconst 0, 1) := by decide +kernel
theorem dX14_has_14 : decode cX14_has 14 = .ok (.ireturn, 1) := by decide +kernel
theorem dX14_isAction_0 : decode cX14_isAction 0 = .ok (.iload_n 1, 1) := by decide +kernel
theorem dX14_isAction_1 : decode cX14_isAction 1 = .ok (.iconst 0, 1) := by decide +kernel
theorem dX14_isAction_2 : decode cX14_isAction 2 = .ok (.aload_n 0, 1) := by decide +kernel
theorem dX14_isAction_3 : decode cX14_isAction 3 = .ok (.getfield 10, 3) := by decide +kernel
theorem dX14_isAction_6 : decode cX14_isAction 6 = .ok (.getfield 20, 3) := by decide +kernel
theorem dX14_isAction_9 : decode cX14_isAction 9 = .ok (.invokevirtual 24, 3) := by decide +kernel
theorem dX14_isAction_12 : decode cX14_isAction 12 = .ok (.iconst 1, 1) := by decide +kernel
theorem dX14_isAction_13 : decode cX14_isAction 13 = .ok (.isub, 1) := by decide +kernel
theorem dX14_isAction_14 : decode cX14_isAction 14 = .ok (.invokestatic 30, 3) := by decide +kernel
theorem dX14_isAction_17 : decode cX14_isAction 17 = .ok (.ireturn, 1) := by decide +kernel
theorem dX14_isWorker_0 : decode cX14_isWorker 0 = .ok (.iload_n 1, 1) := by decide +kernel
theorem dX14_isWorker_1 : decode cX14_isWorker 1 = .ok (.iconst 0, 1) := by decide +kernel
theorem dX14_isWorker_2 : decode cX14_isWorker 2 = .ok (.aload_n 0, 1) := by decide +kernel
theorem dX14_isWorker_3 : decode cX14_isWorker 3 = .ok (.getfield 10, 3) := by decide +kernel
theorem dX14_isWorker_6 : decode cX14_isWorker 6 = .ok (.getfield 34, 3) := by decide +kernel
theorem dX14_isWorker_9 : decode cX14_isWorker 9 = .ok (.invokevirtual 24, 3) := by decide +kernel
theorem dX14_isWorker_12 : decode cX14_isWorker 12 = .ok (.iconst 1, 1) := by decide +kernel
theorem dX14_isWorker_13 : decode cX14_isWorker 13 = .ok (.isub, 1) := by decide +kernel
theorem dX14_isWorker_14 : decode cX14_isWorker 14 = .ok (.invokestatic 30, 3) := by decide +kernel
theorem dX14_isWorker_17 : decode cX14_isWorker 17 = .ok (.ireturn, 1) := by decide +kernel
theorem dX14_isTeam_0 : decode cX14_isTeam 0 = .ok (.iload_n 1, 1) := by decide +kernel
theorem dX14_isTeam_1 : decode cX14_isTeam 1 = .ok (.iconst 0, 1) := by decide +kernel
theorem dX14_isTeam_2 : decode cX14_isTeam 2 = .ok (.aload_n 0, 1) := by decide +kernel
theorem dX14_isTeam_3 : decode cX14_isTeam 3 = .ok (.getfield 10, 3) := by decide +kernel
theorem dX14_isTeam_6 : decode cX14_isTeam 6 = .ok (.getfield 37, 3) := by decide +kernel
theorem dX14_isTeam_9 : decode cX14_isTeam 9 = .ok (.invokevirtual 24, 3) := by decide +kernel
theorem dX14_isTeam_12 : decode cX14_isTeam 12 = .ok (.iconst 1, 1) := by decide +kernel
theorem dX14_isTeam_13 : decode cX14_isTeam 13 = .ok (.isub, 1) := by decide +kernel
theorem dX14_isTeam_14 : decode cX14_isTeam 14 = .ok (.invokestatic 30, 3) := by decide +kernel
theorem dX14_isTeam_17 : decode cX14_isTeam 17 = .ok (.ireturn, 1) := by decide +kernel
theorem dX14_isEntry_0 : decode cX14_isEntry 0 = .ok (.iload_n 1, 1) := by decide +kernel
theorem dX14_isEntry_1 : decode cX14_isEntry 1 = .ok (.iconst 0, 1) := by decide +kernel
theorem dX14_isEntry_2 : decode cX14_isEntry 2 = .ok (.aload_n 0, 1) := by decide +kernel
theorem dX14_isEntry_3 : decode cX14_isEntry 3 = .ok (.getfield 10, 3) := by decide +kernel
theorem dX14_isEntry_6 : decode cX14_isEntry 6 = .ok (.getfield 40, 3) := by decide +kernel
theorem dX14_isEntry_9 : decode cX14_isEntry 9 = .ok (.invokevirtual 24, 3) := by decide +kernel
theorem dX14_isEntry_12 : decode cX14_isEntry 12 = .ok (.iconst 1, 1) := by decide +kernel
theorem dX14_isEntry_13 : decode cX14_isEntry 13 = .ok (.isub, 1) := by decide +kernel
theorem dX14_isEntry_14 : decode cX14_isEntry 14 = .ok (.invokestatic 30, 3) := by decide +kernel
theorem dX14_isEntry_17 : decode cX14_isEntry 17 = .ok (.ireturn, 1) := by decide +kernel
theorem dX14_action_0 : decode cX14_action 0 = .ok (.aload_n 0, 1) := by decide +kernel
theorem dX14_action_1 : decode cX14_action 1 = .ok (.iconst 0, 1) := by decide +kernel
theorem dX14_action_2 : decode cX14_action 2 = .ok (.putfield 16, 3) := by decide +kernel
theorem dX14_action_5 : decode cX14_action 5 = .ok (.aload_n 0, 1) := by decide +kernel
theorem dX14_action_6 : decode cX14_action 6 = .ok (.getfield 10, 3) := by decide +kernel
theorem dX14_action_9 : decode cX14_action 9 = .ok (.getfield 20, 3) := by decide +kernel
theorem dX14_action_12 : decode cX14_action 12 = .ok (.invokevirtual 24, 3) := by decide +kernel
theorem dX14_action_15 : decode cX14_action 15 = .ok (.istore 7, 2) := by decide +kernel
theorem dX14_action_17 : decode cX14_action 17 = .ok (.iload_n 1, 1) := by decide +kernel
theorem dX14_action_18 : decode cX14_action 18 = .ok (.iconst 0, 1) := by decide +kernel
theorem dX14_action_19 : decode cX14_action 19 = .ok (.sipush 255, 3) := by decide +kernel
theorem dX14_action_22 : decode cX14_action 22 = .ok (.invokestatic 30, 3) := by decide +kernel
theorem dX14_action_25 : decode cX14_action 25 = .ok (.ifCond .eq 63, 3) := by decide +kernel
theorem dX14_action_28 : decode cX14_action 28 = .ok (.iload_n 2, 1) := by decide +kernel
theorem dX14_action_29 : decode cX14_action 29 = .ok (.iconst 0, 1) := by decide +kernel
theorem dX14_action_30 : decode cX14_action 30 = .ok (.iconst 1, 1) := by decide +kernel
theorem dX14_action_31 : decode cX14_action 31 = .ok (.iload 7, 2) := by decide +kernel
theorem dX14_action_33 : decode cX14_action 33 = .ok (.ishl, 1) := by decide +kernel
theorem dX14_action_34 : decode cX14_action 34 = .ok (.iconst 1, 1) := by decide +kernel
theorem dX14_action_35 : decode cX14_action 35 = .ok (.isub, 1) := by decide +kernel
theorem dX14_action_36 : decode cX14_action 36 = .ok (.invokestatic 30, 3) := by decide +kernel
theorem dX14_action_39 : decode cX14_action 39 = .ok (.ifCond .eq 49, 3) := by decide +kernel
theorem dX14_action_42 : decode cX14_action 42 = .ok (.iload_n 3, 1) := by decide +kernel
theorem dX14_action_43 : decode cX14_action 43 = .ok (.iconst 0, 1) := by decide +kernel
theorem dX14_action_44 : decode cX14_action 44 = .ok (.bipush 63, 2) := by decide +kernel
theorem dX14_action_46 : decode cX14_action 46 = .ok (.invokestatic 30, 3) := by decide +kernel
theorem dX14_action_49 : decode cX14_action 49 = .ok (.ifCond .eq 39, 3) := by decide +kernel
theorem dX14_action_52 : decode cX14_action 52 = .ok (.iload 4, 2) := by decide +kernel
theorem dX14_action_54 : decode cX14_action 54 = .ok (.ifCond .lt 34, 3) := by decide +kernel
theorem dX14_action_57 : decode cX14_action 57 = .ok (.iload 4, 2) := by decide +kernel
theorem dX14_action_59 : decode cX14_action 59 = .ok (.iload_n 3, 1) := by decide +kernel
theorem dX14_action_60 : decode cX14_action 60 = .ok (.iconst (-1), 1) := by decide +kernel
theorem dX14_action_61 : decode cX14_action 61 = .ok (.ixor, 1) := by decide +kernel
theorem dX14_action_62 : decode cX14_action 62 = .ok (.iand, 1) := by decide +kernel
theorem dX14_action_63 : decode cX14_action 63 = .ok (.ifCond .ne 25, 3) := by decide +kernel
theorem dX14_action_66 : decode cX14_action 66 = .ok (.iload 5, 2) := by decide +kernel
theorem dX14_action_68 : decode cX14_action 68 = .ok (.iconst 1, 1) := by decide +kernel
theorem dX14_action_69 : decode cX14_action 69 = .ok (.bipush 50, 2) := by decide +kernel
theorem dX14_action_71 : decode cX14_action 71 = .ok (.invokestatic 30, 3) := by decide +kernel
theorem dX14_action_74 : decode cX14_action 74 = .ok (.ifCond .eq 14, 3) := by decide +kernel
theorem dX14_action_77 : decode cX14_action 77 = .ok (.iload 6, 2) := by decide +kernel
theorem dX14_action_79 : decode cX14_action 79 = .ok (.iconst 1, 1) := by decide +kernel
theorem dX14_action_80 : decode cX14_action 80 = .ok (.bipush 20, 2) := by decide +kernel
theorem dX14_action_82 : decode cX14_action 82 = .ok (.invokestatic 30, 3) := by decide +kernel
theorem dX14_action_85 : decode cX14_action 85 = .ok (.ifCond .ne 9, 3) := by decide +kernel
theorem dX14_action_88 : decode cX14_action 88 = .ok (.aload_n 0, 1) := by decide +kernel
theorem dX14_action_89 : decode cX14_action 89 = .ok (.iconst 1, 1) := by decide +kernel
theorem dX14_action_90 : decode cX14_action 90 = .ok (.invokevirtual 43, 3) := by decide +kernel
theorem dX14_action_93 : decode cX14_action 93 = .ok (.ireturn, 1) := by decide +kernel
theorem dX14_action_94 : decode cX14_action 94 = .ok (.iload 7, 2) := by decide +kernel
theorem dX14_action_96 : decode cX14_action 96 = .ok (.bipush 14, 2) := by decide +kernel
theorem dX14_action_98 : decode cX14_action 98 = .ok (.if_icmp .ne 9, 3) := by decide +kernel
theorem dX14_action_101 : decode cX14_action 101 = .ok (.aload_n 0, 1) := by decide +kernel
theorem dX14_action_102 : decode cX14_action 102 = .ok (.iconst 2, 1) := by decide +kernel
theorem dX14_action_103 : decode cX14_action 103 = .ok (.invokevirtual 43, 3) := by decide +kernel
theorem dX14_action_106 : decode cX14_action 106 = .ok (.ireturn, 1) := by decide +kernel
theorem dX14_action_107 : decode cX14_action 107 = .ok (.aload_n 0, 1) := by decide +kernel
theorem dX14_action_108 : decode cX14_action 108 = .ok (.getfield 10, 3) := by decide +kernel
theorem dX14_action_111 : decode cX14_action 111 = .ok (.getfield 20, 3) := by decide +kernel
theorem dX14_action_114 : decode cX14_action 114 = .ok (.new 47, 3) := by decide +kernel
theorem dX14_action_117 : decode cX14_action 117 = .ok (.dup, 1) := by decide +kernel
theorem dX14_action_118 : decode cX14_action 118 = .ok (.iload 7, 2) := by decide +kernel
theorem dX14_action_120 : decode cX14_action 120 = .ok (.iload_n 1, 1) := by decide +kernel
theorem dX14_action_121 : decode cX14_action 121 = .ok (.iload_n 2, 1) := by decide +kernel
theorem dX14_action_122 : decode cX14_action 122 = .ok (.iload_n 3, 1) := by decide +kernel
theorem dX14_action_123 : decode cX14_action 123 = .ok (.iload 4, 2) := by decide +kernel
theorem dX14_action_125 : decode cX14_action 125 = .ok (.iload 5, 2) := by decide +kernel
theorem dX14_action_127 : decode cX14_action 127 = .ok (.iload 6, 2) := by decide +kernel
theorem dX14_action_129 : decode cX14_action 129 = .ok (.invokespecial 49, 3) := by decide +kernel
theorem dX14_action_132 : decode cX14_action 132 = .ok (.invokevirtual 52, 3) := by decide +kernel
theorem dX14_action_135 : decode cX14_action 135 = .ok (.pop, 1) := by decide +kernel
theorem dX14_action_136 : decode cX14_action 136 = .ok (.iload 7, 2) := by decide +kernel
theorem dX14_action_138 : decode cX14_action 138 = .ok (.ireturn, 1) := by decide +kernel
theorem dX14_file_0 : decode cX14_file 0 = .ok (.aload_n 0, 1) := by decide +kernel
theorem dX14_file_1 : decode cX14_file 1 = .ok (.iconst 0, 1) := by decide +kernel
theorem dX14_file_2 : decode cX14_file 2 = .ok (.putfield 16, 3) := by decide +kernel
theorem dX14_file_5 : decode cX14_file 5 = .ok (.iload_n 1, 1) := by decide +kernel
theorem dX14_file_6 : decode cX14_file 6 = .ok (.iconst 0, 1) := by decide +kernel
theorem dX14_file_7 : decode cX14_file 7 = .ok (.bipush 7, 2) := by decide +kernel
theorem dX14_file_9 : decode cX14_file 9 = .ok (.invokestatic 30, 3) := by decide +kernel
theorem dX14_file_12 : decode cX14_file 12 = .ok (.ifCond .ne 9, 3) := by decide +kernel
theorem dX14_file_15 : decode cX14_file 15 = .ok (.aload_n 0, 1) := by decide +kernel
theorem dX14_file_16 : decode cX14_file 16 = .ok (.iconst 1, 1) := by decide +kernel
theorem dX14_file_17 : decode cX14_file 17 = .ok (.invokevirtual 43, 3) := by decide +kernel
theorem dX14_file_20 : decode cX14_file 20 = .ok (.ireturn, 1) := by decide +kernel
theorem dX14_file_21 : decode cX14_file 21 = .ok (.iload_n 2, 1) := by decide +kernel
theorem dX14_file_22 : decode cX14_file 22 = .ok (.iconst 0, 1) := by decide +kernel
theorem dX14_file_23 : decode cX14_file 23 = .ok (.bipush 99, 2) := by decide +kernel
theorem dX14_file_25 : decode cX14_file 25 = .ok (.invokestatic 30, 3) := by decide +kernel
theorem dX14_file_28 : decode cX14_file 28 = .ok (.ifCond .ne 9, 3) := by decide +kernel
theorem dX14_file_31 : decode cX14_file 31 = .ok (.aload_n 0, 1) := by decide +kernel
theorem dX14_file_32 : decode cX14_file 32 = .ok (.iconst 2, 1) := by decide +kernel
theorem dX14_file_33 : decode cX14_file 33 = .ok (.invokevirtual 43, 3) := by decide +kernel
theorem dX14_file_36 : decode cX14_file 36 = .ok (.ireturn, 1) := by decide +kernel
theorem dX14_file_37 : decode cX14_file 37 = .ok (.aload_n 0, 1) := by decide +kernel
theorem dX14_file_38 : decode cX14_file 38 = .ok (.getfield 10, 3) := by decide +kernel
theorem dX14_file_41 : decode cX14_file 41 = .ok (.getfield 56, 3) := by decide +kernel
theorem dX14_file_44 : decode cX14_file 44 = .ok (.iload_n 1, 1) := by decide +kernel
theorem dX14_file_45 : decode cX14_file 45 = .ok (.iaload, 1) := by decide +kernel
theorem dX14_file_46 : decode cX14_file 46 = .ok (.istore_n 3, 1) := by decide +kernel
theorem dX14_file_47 : decode cX14_file 47 = .ok (.aload_n 0, 1) := by decide +kernel
theorem dX14_file_48 : decode cX14_file 48 = .ok (.getfield 10, 3) := by decide +kernel
theorem dX14_file_51 : decode cX14_file 51 = .ok (.getfield 56, 3) := by decide +kernel
theorem dX14_file_54 : decode cX14_file 54 = .ok (.iload_n 1, 1) := by decide +kernel
theorem dX14_file_55 : decode cX14_file 55 = .ok (.iload_n 2, 1) := by decide +kernel
theorem dX14_file_56 : decode cX14_file 56 = .ok (.iastore, 1) := by decide +kernel
theorem dX14_file_57 : decode cX14_file 57 = .ok (.iload_n 3, 1) := by decide +kernel
theorem dX14_file_58 : decode cX14_file 58 = .ok (.ireturn, 1) := by decide +kernel
theorem dX14_set_0 : decode cX14_set 0 = .ok (.aload_n 0, 1) := by decide +kernel
theorem dX14_set_1 : decode cX14_set 1 = .ok (.iconst 0, 1) := by decide +kernel
theorem dX14_set_2 : decode cX14_set 2 = .ok (.putfield 16, 3) := by decide +kernel
theorem dX14_set_5 : decode cX14_set 5 = .ok (.iload_n 1, 1) := by decide +kernel
theorem dX14_set_6 : decode cX14_set 6 = .ok (.iconst 0, 1) := by decide +kernel
theorem dX14_set_7 : decode cX14_set 7 = .ok (.iconst 5, 1) := by decide +kernel
theorem dX14_set_8 : decode cX14_set 8 = .ok (.invokestatic 30, 3) := by decide +kernel
theorem dX14_set_11 : decode cX14_set 11 = .ok (.ifCond .ne 9, 3) := by decide +kernel
theorem dX14_set_14 : decode cX14_set 14 = .ok (.aload_n 0, 1) := by decide +kernel
theorem dX14_set_15 : decode cX14_set 15 = .ok (.iconst 1, 1) := by decide +kernel
theorem dX14_set_16 : decode cX14_set 16 = .ok (.invokevirtual 43, 3) := by decide +kernel
theorem dX14_set_19 : decode cX14_set 19 = .ok (.ireturn, 1) := by decide +kernel
theorem dX14_set_20 : decode cX14_set 20 = .ok (.iload_n 2, 1) := by decide +kernel
theorem dX14_set_21 : decode cX14_set 21 = .ok (.iconst 0, 1) := by decide +kernel
theorem dX14_set_22 : decode cX14_set 22 = .ok (.bipush 9, 2) := by decide +kernel
theorem dX14_set_24 : decode cX14_set 24 = .ok (.invokestatic 30, 3) := by decide +kernel
theorem dX14_set_27 : decode cX14_set 27 = .ok (.ifCond .ne 9, 3) := by decide +kernel
theorem dX14_set_30 : decode cX14_set 30 = .ok (.aload_n 0, 1) := by decide +kernel
theorem dX14_set_31 : decode cX14_set 31 = .ok (.iconst 2, 1) := by decide +kernel
theorem dX14_set_32 : decode cX14_set 32 = .ok (.invokevirtual 43, 3) := by decide +kernel
theorem dX14_set_35 : decode cX14_set 35 = .ok (.ireturn, 1) := by decide +kernel
theorem dX14_set_36 : decode cX14_set 36 = .ok (.aload_n 0, 1) := by decide +kernel
theorem dX14_set_37 : decode cX14_set 37 = .ok (.getfield 10, 3) := by decide +kernel
theorem dX14_set_40 : decode cX14_set 40 = .ok (.getfield 60, 3) := by decide +kernel
theorem dX14_set_43 : decode cX14_set 43 = .ok (.iload_n 1, 1) := by decide +kernel
theorem dX14_set_44 : decode cX14_set 44 = .ok (.iaload, 1) := by decide +kernel
theorem dX14_set_45 : decode cX14_set 45 = .ok (.istore_n 3, 1) := by decide +kernel
theorem dX14_set_46 : decode cX14_set 46 = .ok (.aload_n 0, 1) := by decide +kernel
theorem dX14_set_47 : decode cX14_set 47 = .ok (.getfield 10, 3) := by decide +kernel
theorem dX14_set_50 : decode cX14_set 50 = .ok (.getfield 60, 3) := by decide +kernel
theorem dX14_set_53 : decode cX14_set 53 = .ok (.iload_n 1, 1) := by decide +kernel
theorem dX14_set_54 : decode cX14_set 54 = .ok (.iload_n 2, 1) := by decide +kernel
theorem dX14_set_55 : decode cX14_set 55 = .ok (.iastore, 1) := by decide +kernel
theorem dX14_set_56 : decode cX14_set 56 = .ok (.iload_n 3, 1) := by decide +kernel
theorem dX14_set_57 : decode cX14_set 57 = .ok (.ireturn, 1) := by decide +kernel
theorem dX14_kept_0 : decode cX14_kept 0 = .ok (.iconst 0, 1) := by decide +kernel
theorem dX14_kept_1 : decode cX14_kept 1 = .ok (.istore_n 3, 1) := by decide +kernel
theorem dX14_kept_2 : decode cX14_kept 2 = .ok (.aload_n 0, 1) := by decide +kernel
theorem dX14_kept_3 : decode cX14_kept 3 = .ok (.getfield 10, 3) := by decide +kernel
theorem dX14_kept_6 : decode cX14_kept 6 = .ok (.getfield 40, 3) := by decide +kernel
theorem dX14_kept_9 : decode cX14_kept 9 = .ok (.invokevirtual 63, 3) := by decide +kernel
theorem dX14_kept_12 : decode cX14_kept 12 = .ok (.astore 4, 2) := by decide +kernel
theorem dX14_kept_14 : decode cX14_kept 14 = .ok (.aload 4, 2) := by decide +kernel
theorem dX14_kept_16 : decode cX14_kept 16 = .ok (.invokeinterface 67 1, 5) := by decide +kernel
theorem dX14_kept_21 : decode cX14_kept 21 = .ok (.ifCond .eq 65, 3) := by decide +kernel
theorem dX14_kept_24 : decode cX14_kept 24 = .ok (.aload 4, 2) := by decide +kernel
theorem dX14_kept_26 : decode cX14_kept 26 = .ok (.invokeinterface 73 1, 5) := by decide +kernel
theorem dX14_kept_31 : decode cX14_kept 31 = .ok (.checkcast 77, 3) := by decide +kernel
theorem dX14_kept_34 : decode cX14_kept 34 = .ok (.astore 5, 2) := by decide +kernel
theorem dX14_kept_36 : decode cX14_kept 36 = .ok (.iload_n 3, 1) := by decide +kernel
theorem dX14_kept_37 : decode cX14_kept 37 = .ok (.aload 5, 2) := by decide +kernel
theorem dX14_kept_39 : decode cX14_kept 39 = .ok (.getfield 79, 3) := by decide +kernel
theorem dX14_kept_42 : decode cX14_kept 42 = .ok (.ifCond .ne 38, 3) := by decide +kernel
theorem dX14_kept_45 : decode cX14_kept 45 = .ok (.iload_n 1, 1) := by decide +kernel
theorem dX14_kept_46 : decode cX14_kept 46 = .ok (.iconst (-1), 1) := by decide +kernel
theorem dX14_kept_47 : decode cX14_kept 47 = .ok (.if_icmp .eq 15, 3) := by decide +kernel
theorem dX14_kept_50 : decode cX14_kept 50 = .ok (.aload 5, 2) := by decide +kernel
theorem dX14_kept_52 : decode cX14_kept 52 = .ok (.getfield 82, 3) := by decide +kernel
theorem dX14_kept_55 : decode cX14_kept 55 = .ok (.getfield 86, 3) := by decide +kernel
theorem dX14_kept_58 : decode cX14_kept 58 = .ok (.iload_n 1, 1) := by decide +kernel
theorem dX14_kept_59 : decode cX14_kept 59 = .ok (.if_icmp .ne 21, 3) := by decide +kernel
theorem dX14_kept_62 : decode cX14_kept 62 = .ok (.iload_n 2, 1) := by decide +kernel
theorem dX14_kept_63 : decode cX14_kept 63 = .ok (.iconst (-1), 1) := by decide +kernel
theorem dX14_kept_64 : decode cX14_kept 64 = .ok (.if_icmp .eq 12, 3) := by decide +kernel
theorem dX14_kept_67 : decode cX14_kept 67 = .ok (.aload 5, 2) := by decide +kernel
theorem dX14_kept_69 : decode cX14_kept 69 = .ok (.getfield 89, 3) := by decide +kernel
theorem dX14_kept_72 : decode cX14_kept 72 = .ok (.iload_n 2, 1) := by decide +kernel
theorem dX14_kept_73 : decode cX14_kept 73 = .ok (.if_icmp .ne 7, 3) := by decide +kernel
theorem dX14_kept_76 : decode cX14_kept 76 = .ok (.iconst 1, 1) := by decide +kernel
theorem dX14_kept_77 : decode cX14_kept 77 = .ok (.goto 4, 3) := by decide +kernel
theorem dX14_kept_80 : decode cX14_kept 80 = .ok (.iconst 0, 1) := by decide +kernel
theorem dX14_kept_81 : decode cX14_kept 81 = .ok (.iadd, 1) := by decide +kernel
theorem dX14_kept_82 : decode cX14_kept 82 = .ok (.istore_n 3, 1) := by decide +kernel
theorem dX14_kept_83 : decode cX14_kept 83 = .ok (.goto (-69), 3) := by decide +kernel
theorem dX14_kept_86 : decode cX14_kept 86 = .ok (.iload_n 3, 1) := by decide +kernel
theorem dX14_kept_87 : decode cX14_kept 87 = .ok (.ireturn, 1) := by decide +kernel
theorem dX14_ofActionNow_0 : decode cX14_ofActionNow 0 = .ok (.aload_n 0, 1) := by decide +kernel
theorem dX14_ofActionNow_1 : decode cX14_ofActionNow 1 = .ok (.getfield 10, 3) := by decide +kernel
theorem dX14_ofActionNow_4 : decode cX14_ofActionNow 4 = .ok (.getfield 20, 3) := by decide +kernel
theorem dX14_ofActionNow_7 : decode cX14_ofActionNow 7 = .ok (.iload_n 1, 1) := by decide +kernel
theorem dX14_ofActionNow_8 : decode cX14_ofActionNow 8 = .ok (.invokevirtual 92, 3) := by decide +kernel
theorem dX14_ofActionNow_11 : decode cX14_ofActionNow 11 = .ok (.checkcast 47, 3) := by decide +kernel
theorem dX14_ofActionNow_14 : decode cX14_ofActionNow 14 = .ok (.astore_n 3, 1) := by decide +kernel
theorem dX14_ofActionNow_15 : decode cX14_ofActionNow 15 = .ok (.bipush 6, 2) := by decide +kernel
theorem dX14_ofActionNow_17 : decode cX14_ofActionNow 17 = .ok (.newarray .int, 2) := by decide +kernel
theorem dX14_ofActionNow_19 : decode cX14_ofActionNow 19 = .ok (.dup, 1) := by decide +kernel
theorem dX14_ofActionNow_20 : decode cX14_ofActionNow 20 = .ok (.iconst 0, 1) := by decide +kernel
theorem dX14_ofActionNow_21 : decode cX14_ofActionNow 21 = .ok (.aload_n 3, 1) := by decide +kernel
theorem dX14_ofActionNow_22 : decode cX14_ofActionNow 22 = .ok (.getfield 96, 3) := by decide +kernel
theorem dX14_ofActionNow_25 : decode cX14_ofActionNow 25 = .ok (.iastore, 1) := by decide +kernel
theorem dX14_ofActionNow_26 : decode cX14_ofActionNow 26 = .ok (.dup, 1) := by decide +kernel
theorem dX14_ofActionNow_27 : decode cX14_ofActionNow 27 = .ok (.iconst 1, 1) := by decide +kernel
theorem dX14_ofActionNow_28 : decode cX14_ofActionNow 28 = .ok (.aload_n 3, 1) := by decide +kernel
theorem dX14_ofActionNow_29 : decode cX14_ofActionNow 29 = .ok (.getfield 99, 3) := by decide +kernel
theorem dX14_ofActionNow_32 : decode cX14_ofActionNow 32 = .ok (.iastore, 1) := by decide +kernel
theorem dX14_ofActionNow_33 : decode cX14_ofActionNow 33 = .ok (.dup, 1) := by decide +kernel
theorem dX14_ofActionNow_34 : decode cX14_ofActionNow 34 = .ok (.iconst 2, 1) := by decide +kernel
theorem dX14_ofActionNow_35 : decode cX14_ofActionNow 35 = .ok (.aload_n 3, 1) := by decide +kernel
theorem dX14_ofActionNow_36 : decode cX14_ofActionNow 36 = .ok (.getfield 101, 3) := by decide +kernel
theorem dX14_ofActionNow_39 : decode cX14_ofActionNow 39 = .ok (.iastore, 1) := by decide +kernel
theorem dX14_ofActionNow_40 : decode cX14_ofActionNow 40 = .ok (.dup, 1) := by decide +kernel
theorem dX14_ofActionNow_41 : decode cX14_ofActionNow 41 = .ok (.iconst 3, 1) := by decide +kernel
theorem dX14_ofActionNow_42 : decode cX14_ofActionNow 42 = .ok (.aload_n 3, 1) := by decide +kernel
theorem dX14_ofActionNow_43 : decode cX14_ofActionNow 43 = .ok (.getfield 104, 3) := by decide +kernel
theorem dX14_ofActionNow_46 : decode cX14_ofActionNow 46 = .ok (.iastore, 1) := by decide +kernel
theorem dX14_ofActionNow_47 : decode cX14_ofActionNow 47 = .ok (.dup, 1) := by decide +kernel
theorem dX14_ofActionNow_48 : decode cX14_ofActionNow 48 = .ok (.iconst 4, 1) := by decide +kernel
theorem dX14_ofActionNow_49 : decode cX14_ofActionNow 49 = .ok (.aload_n 3, 1) := by decide +kernel
theorem dX14_ofActionNow_50 : decode cX14_ofActionNow 50 = .ok (.getfield 107, 3) := by decide +kernel
theorem dX14_ofActionNow_53 : decode cX14_ofActionNow 53 = .ok (.iastore, 1) := by decide +kernel
theorem dX14_ofActionNow_54 : decode cX14_ofActionNow 54 = .ok (.dup, 1) := by decide +kernel
theorem dX14_ofActionNow_55 : decode cX14_ofActionNow 55 = .ok (.iconst 5, 1) := by decide +kernel
theorem dX14_ofActionNow_56 : decode cX14_ofActionNow 56 = .ok (.aload_n 3, 1) := by decide +kernel
theorem dX14_ofActionNow_57 : decode cX14_ofActionNow 57 = .ok (.getfield 110, 3) := by decide +kernel
theorem dX14_ofActionNow_60 : decode cX14_ofActionNow 60 = .ok (.iastore, 1) := by decide +kernel
theorem dX14_ofActionNow_61 : decode cX14_ofActionNow 61 = .ok (.astore 4, 2) := by decide +kernel
theorem dX14_ofActionNow_63 : decode cX14_ofActionNow 63 = .ok (.iload_n 2, 1) := by decide +kernel
theorem dX14_ofActionNow_64 : decode cX14_ofActionNow 64 = .ok (.bipush 6, 2) := by decide +kernel
theorem dX14_ofActionNow_66 : decode cX14_ofActionNow 66 = .ok (.if_icmp .ge 10, 3) := by decide +kernel
theorem dX14_ofActionNow_69 : decode cX14_ofActionNow 69 = .ok (.aload 4, 2) := by decide +kernel
theorem dX14_ofActionNow_71 : decode cX14_ofActionNow 71 = .ok (.iload_n 2, 1) := by decide +kernel
theorem dX14_ofActionNow_72 : decode cX14_ofActionNow 72 = .ok (.iaload, 1) := by decide +kernel
theorem dX14_ofActionNow_73 : decode cX14_ofActionNow 73 = .ok (.goto 26, 3) := by decide +kernel
theorem dX14_ofActionNow_76 : decode cX14_ofActionNow 76 = .ok (.iload_n 2, 1) := by decide +kernel
theorem dX14_ofActionNow_77 : decode cX14_ofActionNow 77 = .ok (.bipush 6, 2) := by decide +kernel
theorem dX14_ofActionNow_79 : decode cX14_ofActionNow 79 = .ok (.if_icmp .ne 14, 3) := by decide +kernel
theorem dX14_ofActionNow_82 : decode cX14_ofActionNow 82 = .ok (.aload_n 0, 1) := by decide +kernel
theorem dX14_ofActionNow_83 : decode cX14_ofActionNow 83 = .ok (.getfield 10, 3) := by decide +kernel
theorem dX14_ofActionNow_86 : decode cX14_ofActionNow 86 = .ok (.iload_n 1, 1) := by decide +kernel
theorem dX14_ofActionNow_87 : decode cX14_ofActionNow 87 = .ok (.invokevirtual 112, 3) := by decide +kernel
theorem dX14_ofActionNow_90 : decode cX14_ofActionNow 90 = .ok (.goto 9, 3) := by decide +kernel
theorem dX14_ofActionNow_93 : decode cX14_ofActionNow 93 = .ok (.aload_n 0, 1) := by decide +kernel
theorem dX14_ofActionNow_94 : decode cX14_ofActionNow 94 = .ok (.iload_n 1, 1) := by decide +kernel
theorem dX14_ofActionNow_95 : decode cX14_ofActionNow 95 = .ok (.iconst (-1), 1) := by decide +kernel
theorem dX14_ofActionNow_96 : decode cX14_ofActionNow 96 = .ok (.invokevirtual 115, 3) := by decide +kernel
theorem dX14_ofActionNow_99 : decode cX14_ofActionNow 99 = .ok (.ireturn, 1) := by decide +kernel
theorem dX14_ofAction_0 : decode cX14_ofAction 0 = .ok (.aload_n 0, 1) := by decide +kernel
theorem dX14_ofAction_1 : decode cX14_ofAction 1 = .ok (.iconst 0, 1) := by decide +kernel
theorem dX14_ofAction_2 : decode cX14_ofAction 2 = .ok (.putfield 16, 3) := by decide +kernel
theorem dX14_ofAction_5 : decode cX14_ofAction 5 = .ok (.aload_n 0, 1) := by decide +kernel
theorem dX14_ofAction_6 : decode cX14_ofAction 6 = .ok (.iload_n 1, 1) := by decide +kernel
theorem dX14_ofAction_7 : decode cX14_ofAction 7 = .ok (.invokevirtual 119, 3) := by decide +kernel
theorem dX14_ofAction_10 : decode cX14_ofAction 10 = .ok (.ifCond .ne 9, 3) := by decide +kernel
theorem dX14_ofAction_13 : decode cX14_ofAction 13 = .ok (.aload_n 0, 1) := by decide +kernel
theorem dX14_ofAction_14 : decode cX14_ofAction 14 = .ok (.iconst 1, 1) := by decide +kernel
theorem dX14_ofAction_15 : decode cX14_ofAction 15 = .ok (.invokevirtual 43, 3) := by decide +kernel
theorem dX14_ofAction_18 : decode cX14_ofAction 18 = .ok (.ireturn, 1) := by decide +kernel
theorem dX14_ofAction_19 : decode cX14_ofAction 19 = .ok (.iload_n 2, 1) := by decide +kernel
theorem dX14_ofAction_20 : decode cX14_ofAction 20 = .ok (.iconst 0, 1) := by decide +kernel
theorem dX14_ofAction_21 : decode cX14_ofAction 21 = .ok (.bipush 7, 2) := by decide +kernel
theorem dX14_ofAction_23 : decode cX14_ofAction 23 = .ok (.invokestatic 30, 3) := by decide +kernel
theorem dX14_ofAction_26 : decode cX14_ofAction 26 = .ok (.ifCond .eq 12, 3) := by decide +kernel
theorem dX14_ofAction_29 : decode cX14_ofAction 29 = .ok (.aload_n 0, 1) := by decide +kernel
theorem dX14_ofAction_30 : decode cX14_ofAction 30 = .ok (.iload_n 1, 1) := by decide +kernel
theorem dX14_ofAction_31 : decode cX14_ofAction 31 = .ok (.iload_n 2, 1) := by decide +kernel
theorem dX14_ofAction_32 : decode cX14_ofAction 32 = .ok (.invokevirtual 123, 3) := by decide +kernel
theorem dX14_ofAction_35 : decode cX14_ofAction 35 = .ok (.goto 8, 3) := by decide +kernel
theorem dX14_ofAction_38 : decode cX14_ofAction 38 = .ok (.aload_n 0, 1) := by decide +kernel
theorem dX14_ofAction_39 : decode cX14_ofAction 39 = .ok (.iconst 2, 1) := by decide +kernel
theorem dX14_ofAction_40 : decode cX14_ofAction 40 = .ok (.invokevirtual 43, 3) := by decide +kernel
theorem dX14_ofAction_43 : decode cX14_ofAction 43 = .ok (.ireturn, 1) := by decide +kernel
theorem dX14_worker_0 : decode cX14_worker 0 = .ok (.aload_n 0, 1) := by decide +kernel
theorem dX14_worker_1 : decode cX14_worker 1 = .ok (.iconst 0, 1) := by decide +kernel
theorem dX14_worker_2 : decode cX14_worker 2 = .ok (.putfield 16, 3) := by decide +kernel
theorem dX14_worker_5 : decode cX14_worker 5 = .ok (.iload_n 1, 1) := by decide +kernel
theorem dX14_worker_6 : decode cX14_worker 6 = .ok (.iconst 0, 1) := by decide +kernel
theorem dX14_worker_7 : decode cX14_worker 7 = .ok (.bipush 9, 2) := by decide +kernel
theorem dX14_worker_9 : decode cX14_worker 9 = .ok (.invokestatic 30, 3) := by decide +kernel
theorem dX14_worker_12 : decode cX14_worker 12 = .ok (.ifCond .ne 9, 3) := by decide +kernel
theorem dX14_worker_15 : decode cX14_worker 15 = .ok (.aload_n 0, 1) := by decide +kernel
theorem dX14_worker_16 : decode cX14_worker 16 = .ok (.iconst 1, 1) := by decide +kernel
theorem dX14_worker_17 : decode cX14_worker 17 = .ok (.invokevirtual 43, 3) := by decide +kernel
theorem dX14_worker_20 : decode cX14_worker 20 = .ok (.ireturn, 1) := by decide +kernel
theorem dX14_worker_21 : decode cX14_worker 21 = .ok (.aload_n 0, 1) := by decide +kernel
theorem dX14_worker_22 : decode cX14_worker 22 = .ok (.getfield 10, 3) := by decide +kernel
theorem dX14_worker_25 : decode cX14_worker 25 = .ok (.getfield 34, 3) := by decide +kernel
theorem dX14_worker_28 : decode cX14_worker 28 = .ok (.invokevirtual 24, 3) := by decide +kernel
theorem dX14_worker_31 : decode cX14_worker 31 = .ok (.iconst 4, 1) := by decide +kernel
theorem dX14_worker_32 : decode cX14_worker 32 = .ok (.if_icmp .ne 9, 3) := by decide +kernel
theorem dX14_worker_35 : decode cX14_worker 35 = .ok (.aload_n 0, 1) := by decide +kernel
theorem dX14_worker_36 : decode cX14_worker 36 = .ok (.iconst 2, 1) := by decide +kernel
theorem dX14_worker_37 : decode cX14_worker 37 = .ok (.invokevirtual 43, 3) := by decide +kernel
theorem dX14_worker_40 : decode cX14_worker 40 = .ok (.ireturn, 1) := by decide +kernel
theorem dX14_worker_41 : decode cX14_worker 41 = .ok (.new 126, 3) := by decide +kernel
theorem dX14_worker_44 : decode cX14_worker 44 = .ok (.dup, 1) := by decide +kernel
theorem dX14_worker_45 : decode cX14_worker 45 = .ok (.invokespecial 128, 3) := by decide +kernel
theorem dX14_worker_48 : decode cX14_worker 48 = .ok (.astore_n 2, 1) := by decide +kernel
theorem dX14_worker_49 : decode cX14_worker 49 = .ok (.aload_n 2, 1) := by decide +kernel
theorem dX14_worker_50 : decode cX14_worker 50 = .ok (.iload_n 1, 1) := by decide +kernel
theorem dX14_worker_51 : decode cX14_worker 51 = .ok (.putfield 129, 3) := by decide +kernel
theorem dX14_worker_54 : decode cX14_worker 54 = .ok (.aload_n 0, 1) := by decide +kernel
theorem dX14_worker_55 : decode cX14_worker 55 = .ok (.getfield 10, 3) := by decide +kernel
theorem dX14_worker_58 : decode cX14_worker 58 = .ok (.getfield 34, 3) := by decide +kernel
theorem dX14_worker_61 : decode cX14_worker 61 = .ok (.aload_n 2, 1) := by decide +kernel
theorem dX14_worker_62 : decode cX14_worker 62 = .ok (.invokevirtual 52, 3) := by decide +kernel
theorem dX14_worker_65 : decode cX14_worker 65 = .ok (.pop, 1) := by decide +kernel
theorem dX14_worker_66 : decode cX14_worker 66 = .ok (.aload_n 0, 1) := by decide +kernel
theorem dX14_worker_67 : decode cX14_worker 67 = .ok (.getfield 10, 3) := by decide +kernel
theorem dX14_worker_70 : decode cX14_worker 70 = .ok (.getfield 34, 3) := by decide +kernel
theorem dX14_worker_73 : decode cX14_worker 73 = .ok (.invokevirtual 24, 3) := by decide +kernel
theorem dX14_worker_76 : decode cX14_worker 76 = .ok (.iconst 1, 1) := by decide +kernel
theorem dX14_worker_77 : decode cX14_worker 77 = .ok (.isub, 1) := by decide +kernel
theorem dX14_worker_78 : decode cX14_worker 78 = .ok (.ireturn, 1) := by decide +kernel
theorem dX14_ofWorkerNow_0 : decode cX14_ofWorkerNow 0 = .ok (.aload_n 0, 1) := by decide +kernel
theorem dX14_ofWorkerNow_1 : decode cX14_ofWorkerNow 1 = .ok (.getfield 10, 3) := by decide +kernel
theorem dX14_ofWorkerNow_4 : decode cX14_ofWorkerNow 4 = .ok (.getfield 34, 3) := by decide +kernel
theorem dX14_ofWorkerNow_7 : decode cX14_ofWorkerNow 7 = .ok (.iload_n 1, 1) := by decide +kernel
theorem dX14_ofWorkerNow_8 : decode cX14_ofWorkerNow 8 = .ok (.invokevirtual 92, 3) := by decide +kernel
theorem dX14_ofWorkerNow_11 : decode cX14_ofWorkerNow 11 = .ok (.checkcast 126, 3) := by decide +kernel
theorem dX14_ofWorkerNow_14 : decode cX14_ofWorkerNow 14 = .ok (.astore_n 3, 1) := by decide +kernel
theorem dX14_ofWorkerNow_15 : decode cX14_ofWorkerNow 15 = .ok (.iconst 0, 1) := by decide +kernel
theorem dX14_ofWorkerNow_16 : decode cX14_ofWorkerNow 16 = .ok (.istore 4, 2) := by decide +kernel
theorem dX14_ofWorkerNow_18 : decode cX14_ofWorkerNow 18 = .ok (.aload_n 0, 1) := by decide +kernel
theorem dX14_ofWorkerNow_19 : decode cX14_ofWorkerNow 19 = .ok (.getfield 10, 3) := by decide +kernel
theorem dX14_ofWorkerNow_22 : decode cX14_ofWorkerNow 22 = .ok (.getfield 40, 3) := by decide +kernel
theorem dX14_ofWorkerNow_25 : decode cX14_ofWorkerNow 25 = .ok (.invokevirtual 63, 3) := by decide +kernel
theorem dX14_ofWorkerNow_28 : decode cX14_ofWorkerNow 28 = .ok (.astore 5, 2) := by decide +kernel
theorem dX14_ofWorkerNow_30 : decode cX14_ofWorkerNow 30 = .ok (.aload 5, 2) := by decide +kernel
theorem dX14_ofWorkerNow_32 : decode cX14_ofWorkerNow 32 = .ok (.invokeinterface 67 1, 5) := by decide +kernel
theorem dX14_ofWorkerNow_37 : decode cX14_ofWorkerNow 37 = .ok (.ifCond .eq 46, 3) := by decide +kernel
theorem dX14_ofWorkerNow_40 : decode cX14_ofWorkerNow 40 = .ok (.aload 5, 2) := by decide +kernel
theorem dX14_ofWorkerNow_42 : decode cX14_ofWorkerNow 42 = .ok (.invokeinterface 73 1, 5) := by decide +kernel
theorem dX14_ofWorkerNow_47 : decode cX14_ofWorkerNow 47 = .ok (.checkcast 77, 3) := by decide +kernel
theorem dX14_ofWorkerNow_50 : decode cX14_ofWorkerNow 50 = .ok (.astore 6, 2) := by decide +kernel
theorem dX14_ofWorkerNow_52 : decode cX14_ofWorkerNow 52 = .ok (.iload 4, 2) := by decide +kernel
theorem dX14_ofWorkerNow_54 : decode cX14_ofWorkerNow 54 = .ok (.aload 6, 2) := by decide +kernel
theorem dX14_ofWorkerNow_56 : decode cX14_ofWorkerNow 56 = .ok (.getfield 132, 3) := by decide +kernel
theorem dX14_ofWorkerNow_59 : decode cX14_ofWorkerNow 59 = .ok (.iload_n 1, 1) := by decide +kernel
theorem dX14_ofWorkerNow_60 : decode cX14_ofWorkerNow 60 = .ok (.if_icmp .ne 16, 3) := by decide +kernel
theorem dX14_ofWorkerNow_63 : decode cX14_ofWorkerNow 63 = .ok (.aload 6, 2) := by decide +kernel
theorem dX14_ofWorkerNow_65 : decode cX14_ofWorkerNow 65 = .ok (.getfield 79, 3) := by decide +kernel
theorem dX14_ofWorkerNow_68 : decode cX14_ofWorkerNow 68 = .ok (.iconst 2, 1) := by decide +kernel
theorem dX14_ofWorkerNow_69 : decode cX14_ofWorkerNow 69 = .ok (.if_icmp .ne 7, 3) := by decide +kernel
theorem dX14_ofWorkerNow_72 : decode cX14_ofWorkerNow 72 = .ok (.iconst 1, 1) := by decide +kernel
theorem dX14_ofWorkerNow_73 : decode cX14_ofWorkerNow 73 = .ok (.goto 4, 3) := by decide +kernel
theorem dX14_ofWorkerNow_76 : decode cX14_ofWorkerNow 76 = .ok (.iconst 0, 1) := by decide +kernel
theorem dX14_ofWorkerNow_77 : decode cX14_ofWorkerNow 77 = .ok (.iadd, 1) := by decide +kernel
theorem dX14_ofWorkerNow_78 : decode cX14_ofWorkerNow 78 = .ok (.istore 4, 2) := by decide +kernel
theorem dX14_ofWorkerNow_80 : decode cX14_ofWorkerNow 80 = .ok (.goto (-50), 3) := by decide +kernel
theorem dX14_ofWorkerNow_83 : decode cX14_ofWorkerNow 83 = .ok (.iconst 5, 1) := by decide +kernel
theorem dX14_ofWorkerNow_84 : decode cX14_ofWorkerNow 84 = .ok (.newarray .int, 2) := by decide +kernel
theorem dX14_ofWorkerNow_86 : decode cX14_ofWorkerNow 86 = .ok (.dup, 1) := by decide +kernel
theorem dX14_ofWorkerNow_87 : decode cX14_ofWorkerNow 87 = .ok (.iconst 0, 1) := by decide +kernel
theorem dX14_ofWorkerNow_88 : decode cX14_ofWorkerNow 88 = .ok (.aload_n 3, 1) := by decide +kernel
theorem dX14_ofWorkerNow_89 : decode cX14_ofWorkerNow 89 = .ok (.getfield 135, 3) := by decide +kernel
theorem dX14_ofWorkerNow_92 : decode cX14_ofWorkerNow 92 = .ok (.iastore, 1) := by decide +kernel
theorem dX14_ofWorkerNow_93 : decode cX14_ofWorkerNow 93 = .ok (.dup, 1) := by decide +kernel
theorem dX14_ofWorkerNow_94 : decode cX14_ofWorkerNow 94 = .ok (.iconst 1, 1) := by decide +kernel
theorem dX14_ofWorkerNow_95 : decode cX14_ofWorkerNow 95 = .ok (.aload_n 3, 1) := by decide +kernel
theorem dX14_ofWorkerNow_96 : decode cX14_ofWorkerNow 96 = .ok (.getfield 138, 3) := by decide +kernel
theorem dX14_ofWorkerNow_99 : decode cX14_ofWorkerNow 99 = .ok (.iastore, 1) := by decide +kernel
theorem dX14_ofWorkerNow_100 : decode cX14_ofWorkerNow 100 = .ok (.dup, 1) := by decide +kernel
theorem dX14_ofWorkerNow_101 : decode cX14_ofWorkerNow 101 = .ok (.iconst 2, 1) := by decide +kernel
theorem dX14_ofWorkerNow_102 : decode cX14_ofWorkerNow 102 = .ok (.aload_n 3, 1) := by decide +kernel
theorem dX14_ofWorkerNow_103 : decode cX14_ofWorkerNow 103 = .ok (.getfield 141, 3) := by decide +kernel
theorem dX14_ofWorkerNow_106 : decode cX14_ofWorkerNow 106 = .ok (.iastore, 1) := by decide +kernel
theorem dX14_ofWorkerNow_107 : decode cX14_ofWorkerNow 107 = .ok (.dup, 1) := by decide +kernel
theorem dX14_ofWorkerNow_108 : decode cX14_ofWorkerNow 108 = .ok (.iconst 3, 1) := by decide +kernel
theorem dX14_ofWorkerNow_109 : decode cX14_ofWorkerNow 109 = .ok (.iload 4, 2) := by decide +kernel
theorem dX14_ofWorkerNow_111 : decode cX14_ofWorkerNow 111 = .ok (.iastore, 1) := by decide +kernel
theorem dX14_ofWorkerNow_112 : decode cX14_ofWorkerNow 112 = .ok (.dup, 1) := by decide +kernel
theorem dX14_ofWorkerNow_113 : decode cX14_ofWorkerNow 113 = .ok (.iconst 4, 1) := by decide +kernel
theorem dX14_ofWorkerNow_114 : decode cX14_ofWorkerNow 114 = .ok (.aload_n 3, 1) := by decide +kernel
theorem dX14_ofWorkerNow_115 : decode cX14_ofWorkerNow 115 = .ok (.getfield 144, 3) := by decide +kernel
theorem dX14_ofWorkerNow_118 : decode cX14_ofWorkerNow 118 = .ok (.iastore, 1) := by decide +kernel
theorem dX14_ofWorkerNow_119 : decode cX14_ofWorkerNow 119 = .ok (.astore 5, 2) := by decide +kernel
theorem dX14_ofWorkerNow_121 : decode cX14_ofWorkerNow 121 = .ok (.aload 5, 2) := by decide +kernel
theorem dX14_ofWorkerNow_123 : decode cX14_ofWorkerNow 123 = .ok (.iload_n 2, 1) := by decide +kernel
theorem dX14_ofWorkerNow_124 : decode cX14_ofWorkerNow 124 = .ok (.iaload, 1) := by decide +kernel
theorem dX14_ofWorkerNow_125 : decode cX14_ofWorkerNow 125 = .ok (.ireturn, 1) := by decide +kernel
theorem dX14_ofWorker_0 : decode cX14_ofWorker 0 = .ok (.aload_n 0, 1) := by decide +kernel
theorem dX14_ofWorker_1 : decode cX14_ofWorker 1 = .ok (.iconst 0, 1) := by decide +kernel
theorem dX14_ofWorker_2 : decode cX14_ofWorker 2 = .ok (.putfield 16, 3) := by decide +kernel
theorem dX14_ofWorker_5 : decode cX14_ofWorker 5 = .ok (.aload_n 0, 1) := by decide +kernel
theorem dX14_ofWorker_6 : decode cX14_ofWorker 6 = .ok (.iload_n 1, 1) := by decide +kernel
theorem dX14_ofWorker_7 : decode cX14_ofWorker 7 = .ok (.invokevirtual 147, 3) := by decide +kernel
theorem dX14_ofWorker_10 : decode cX14_ofWorker 10 = .ok (.ifCond .ne 9, 3) := by decide +kernel
theorem dX14_ofWorker_13 : decode cX14_ofWorker 13 = .ok (.aload_n 0, 1) := by decide +kernel
theorem dX14_ofWorker_14 : decode cX14_ofWorker 14 = .ok (.iconst 1, 1) := by decide +kernel
theorem dX14_ofWorker_15 : decode cX14_ofWorker 15 = .ok (.invokevirtual 43, 3) := by decide +kernel
theorem dX14_ofWorker_18 : decode cX14_ofWorker 18 = .ok (.ireturn, 1) := by decide +kernel
theorem dX14_ofWorker_19 : decode cX14_ofWorker 19 = .ok (.iload_n 2, 1) := by decide +kernel
theorem dX14_ofWorker_20 : decode cX14_ofWorker 20 = .ok (.iconst 0, 1) := by decide +kernel
theorem dX14_ofWorker_21 : decode cX14_ofWorker 21 = .ok (.iconst 4, 1) := by decide +kernel
theorem dX14_ofWorker_22 : decode cX14_ofWorker 22 = .ok (.invokestatic 30, 3) := by decide +kernel
theorem dX14_ofWorker_25 : decode cX14_ofWorker 25 = .ok (.ifCond .eq 12, 3) := by decide +kernel
theorem dX14_ofWorker_28 : decode cX14_ofWorker 28 = .ok (.aload_n 0, 1) := by decide +kernel
theorem dX14_ofWorker_29 : decode cX14_ofWorker 29 = .ok (.iload_n 1, 1) := by decide +kernel
theorem dX14_ofWorker_30 : decode cX14_ofWorker 30 = .ok (.iload_n 2, 1) := by decide +kernel
theorem dX14_ofWorker_31 : decode cX14_ofWorker 31 = .ok (.invokevirtual 150, 3) := by decide +kernel
theorem dX14_ofWorker_34 : decode cX14_ofWorker 34 = .ok (.goto 8, 3) := by decide +kernel
theorem dX14_ofWorker_37 : decode cX14_ofWorker 37 = .ok (.aload_n 0, 1) := by decide +kernel
theorem dX14_ofWorker_38 : decode cX14_ofWorker 38 = .ok (.iconst 2, 1) := by decide +kernel
theorem dX14_ofWorker_39 : decode cX14_ofWorker 39 = .ok (.invokevirtual 43, 3) := by decide +kernel
theorem dX14_ofWorker_42 : decode cX14_ofWorker 42 = .ok (.ireturn, 1) := by decide +kernel
theorem dX14_mend_0 : decode cX14_mend 0 = .ok (.aload_n 0, 1) := by decide +kernel
theorem dX14_mend_1 : decode cX14_mend 1 = .ok (.iconst 0, 1) := by decide +kernel
theorem dX14_mend_2 : decode cX14_mend 2 = .ok (.putfield 16, 3) := by decide +kernel
theorem dX14_mend_5 : decode cX14_mend 5 = .ok (.aload_n 0, 1) := by decide +kernel
theorem dX14_mend_6 : decode cX14_mend 6 = .ok (.iload_n 1, 1) := by decide +kernel
theorem dX14_mend_7 : decode cX14_mend 7 = .ok (.invokevirtual 147, 3) := by decide +kernel
theorem dX14_mend_10 : decode cX14_mend 10 = .ok (.ifCond .ne 9, 3) := by decide +kernel
theorem dX14_mend_13 : decode cX14_mend 13 = .ok (.aload_n 0, 1) := by decide +kernel
theorem dX14_mend_14 : decode cX14_mend 14 = .ok (.iconst 1, 1) := by decide +kernel
theorem dX14_mend_15 : decode cX14_mend 15 = .ok (.invokevirtual 43, 3) := by decide +kernel
theorem dX14_mend_18 : decode cX14_mend 18 = .ok (.ireturn, 1) := by decide +kernel
theorem dX14_mend_19 : decode cX14_mend 19 = .ok (.iload_n 2, 1) := by decide +kernel
theorem dX14_mend_20 : decode cX14_mend 20 = .ok (.iconst 0, 1) := by decide +kernel
theorem dX14_mend_21 : decode cX14_mend 21 = .ok (.bipush 9, 2) := by decide +kernel
theorem dX14_mend_23 : decode cX14_mend 23 = .ok (.invokestatic 30, 3) := by decide +kernel
theorem dX14_mend_26 : decode cX14_mend 26 = .ok (.ifCond .ne 9, 3) := by decide +kernel
theorem dX14_mend_29 : decode cX14_mend 29 = .ok (.aload_n 0, 1) := by decide +kernel
theorem dX14_mend_30 : decode cX14_mend 30 = .ok (.iconst 2, 1) := by decide +kernel
theorem dX14_mend_31 : decode cX14_mend 31 = .ok (.invokevirtual 43, 3) := by decide +kernel
theorem dX14_mend_34 : decode cX14_mend 34 = .ok (.ireturn, 1) := by decide +kernel
theorem dX14_mend_35 : decode cX14_mend 35 = .ok (.aload_n 0, 1) := by decide +kernel
theorem dX14_mend_36 : decode cX14_mend 36 = .ok (.getfield 10, 3) := by decide +kernel
theorem dX14_mend_39 : decode cX14_mend 39 = .ok (.getfield 34, 3) := by decide +kernel
theorem dX14_mend_42 : decode cX14_mend 42 = .ok (.iload_n 1, 1) := by decide +kernel
theorem dX14_mend_43 : decode cX14_mend 43 = .ok (.invokevirtual 92, 3) := by decide +kernel
theorem dX14_mend_46 : decode cX14_mend 46 = .ok (.checkcast 126, 3) := by decide +kernel
theorem dX14_mend_49 : decode cX14_mend 49 = .ok (.astore_n 3, 1) := by decide +kernel
theorem dX14_mend_50 : decode cX14_mend 50 = .ok (.aload_n 3, 1) := by decide +kernel
theorem dX14_mend_51 : decode cX14_mend 51 = .ok (.getfield 135, 3) := by decide +kernel
theorem dX14_mend_54 : decode cX14_mend 54 = .ok (.istore 4, 2) := by decide +kernel
theorem dX14_mend_56 : decode cX14_mend 56 = .ok (.aload_n 3, 1) := by decide +kernel
theorem dX14_mend_57 : decode cX14_mend 57 = .ok (.iload_n 2, 1) := by decide +kernel
theorem dX14_mend_58 : decode cX14_mend 58 = .ok (.putfield 129, 3) := by decide +kernel
theorem dX14_mend_61 : decode cX14_mend 61 = .ok (.aload_n 3, 1) := by decide +kernel
theorem dX14_mend_62 : decode cX14_mend 62 = .ok (.bipush 50, 2) := by decide +kernel
theorem dX14_mend_64 : decode cX14_mend 64 = .ok (.putfield 135, 3) := by decide +kernel
theorem dX14_mend_67 : decode cX14_mend 67 = .ok (.iload 4, 2) := by decide +kernel
theorem dX14_mend_69 : decode cX14_mend 69 = .ok (.ireturn, 1) := by decide +kernel
theorem dX14_team_0 : decode cX14_team 0 = .ok (.aload_n 0, 1) := by decide +kernel
theorem dX14_team_1 : decode cX14_team 1 = .ok (.iconst 0, 1) := by decide +kernel
theorem dX14_team_2 : decode cX14_team 2 = .ok (.putfield 16, 3) := by decide +kernel
theorem dX14_team_5 : decode cX14_team 5 = .ok (.iload_n 1, 1) := by decide +kernel
theorem dX14_team_6 : decode cX14_team 6 = .ok (.iconst 0, 1) := by decide +kernel
theorem dX14_team_7 : decode cX14_team 7 = .ok (.bipush 100, 2) := by decide +kernel
theorem dX14_team_9 : decode cX14_team 9 = .ok (.invokestatic 30, 3) := by decide +kernel
theorem dX14_team_12 : decode cX14_team 12 = .ok (.ifCond .ne 9, 3) := by decide +kernel
theorem dX14_team_15 : decode cX14_team 15 = .ok (.aload_n 0, 1) := by decide +kernel
theorem dX14_team_16 : decode cX14_team 16 = .ok (.iconst 1, 1) := by decide +kernel
theorem dX14_team_17 : decode cX14_team 17 = .ok (.invokevirtual 43, 3) := by decide +kernel
theorem dX14_team_20 : decode cX14_team 20 = .ok (.ireturn, 1) := by decide +kernel
theorem dX14_team_21 : decode cX14_team 21 = .ok (.aload_n 0, 1) := by decide +kernel
theorem dX14_team_22 : decode cX14_team 22 = .ok (.getfield 10, 3) := by decide +kernel
theorem dX14_team_25 : decode cX14_team 25 = .ok (.getfield 37, 3) := by decide +kernel
theorem dX14_team_28 : decode cX14_team 28 = .ok (.invokevirtual 24, 3) := by decide +kernel
theorem dX14_team_31 : decode cX14_team 31 = .ok (.iconst 4, 1) := by decide +kernel
theorem dX14_team_32 : decode cX14_team 32 = .ok (.if_icmp .ne 9, 3) := by decide +kernel
theorem dX14_team_35 : decode cX14_team 35 = .ok (.aload_n 0, 1) := by decide +kernel
theorem dX14_team_36 : decode cX14_team 36 = .ok (.iconst 2, 1) := by decide +kernel
theorem dX14_team_37 : decode cX14_team 37 = .ok (.invokevirtual 43, 3) := by decide +kernel
theorem dX14_team_40 : decode cX14_team 40 = .ok (.ireturn, 1) := by decide +kernel
theorem dX14_team_41 : decode cX14_team 41 = .ok (.new 153, 3) := by decide +kernel
theorem dX14_team_44 : decode cX14_team 44 = .ok (.dup, 1) := by decide +kernel
theorem dX14_team_45 : decode cX14_team 45 = .ok (.invokespecial 155, 3) := by decide +kernel
theorem dX14_team_48 : decode cX14_team 48 = .ok (.astore_n 2, 1) := by decide +kernel
theorem dX14_team_49 : decode cX14_team 49 = .ok (.aload_n 2, 1) := by decide +kernel
theorem dX14_team_50 : decode cX14_team 50 = .ok (.iload_n 1, 1) := by decide +kernel
theorem dX14_team_51 : decode cX14_team 51 = .ok (.putfield 156, 3) := by decide +kernel
theorem dX14_team_54 : decode cX14_team 54 = .ok (.aload_n 0, 1) := by decide +kernel
theorem dX14_team_55 : decode cX14_team 55 = .ok (.getfield 10, 3) := by decide +kernel
theorem dX14_team_58 : decode cX14_team 58 = .ok (.getfield 37, 3) := by decide +kernel
theorem dX14_team_61 : decode cX14_team 61 = .ok (.aload_n 2, 1) := by decide +kernel
theorem dX14_team_62 : decode cX14_team 62 = .ok (.invokevirtual 52, 3) := by decide +kernel
theorem dX14_team_65 : decode cX14_team 65 = .ok (.pop, 1) := by decide +kernel
theorem dX14_team_66 : decode cX14_team 66 = .ok (.aload_n 0, 1) := by decide +kernel
theorem dX14_team_67 : decode cX14_team 67 = .ok (.getfield 10, 3) := by decide +kernel
theorem dX14_team_70 : decode cX14_team 70 = .ok (.getfield 37, 3) := by decide +kernel
theorem dX14_team_73 : decode cX14_team 73 = .ok (.invokevirtual 24, 3) := by decide +kernel
theorem dX14_team_76 : decode cX14_team 76 = .ok (.iconst 1, 1) := by decide +kernel
theorem dX14_team_77 : decode cX14_team 77 = .ok (.isub, 1) := by decide +kernel
theorem dX14_team_78 : decode cX14_team 78 = .ok (.ireturn, 1) := by decide +kernel
theorem dX14_quota_0 : decode cX14_quota 0 = .ok (.aload_n 0, 1) := by decide +kernel
theorem dX14_quota_1 : decode cX14_quota 1 = .ok (.iconst 0, 1) := by decide +kernel
theorem dX14_quota_2 : decode cX14_quota 2 = .ok (.putfield 16, 3) := by decide +kernel
theorem dX14_quota_5 : decode cX14_quota 5 = .ok (.aload_n 0, 1) := by decide +kernel
theorem dX14_quota_6 : decode cX14_quota 6 = .ok (.iload_n 1, 1) := by decide +kernel
theorem dX14_quota_7 : decode cX14_quota 7 = .ok (.invokevirtual 159, 3) := by decide +kernel
theorem dX14_quota_10 : decode cX14_quota 10 = .ok (.ifCond .ne 9, 3) := by decide +kernel
theorem dX14_quota_13 : decode cX14_quota 13 = .ok (.aload_n 0, 1) := by decide +kernel
theorem dX14_quota_14 : decode cX14_quota 14 = .ok (.iconst 1, 1) := by decide +kernel
theorem dX14_quota_15 : decode cX14_quota 15 = .ok (.invokevirtual 43, 3) := by decide +kernel
theorem dX14_quota_18 : decode cX14_quota 18 = .ok (.ireturn, 1) := by decide +kernel
theorem dX14_quota_19 : decode cX14_quota 19 = .ok (.iload_n 2, 1) := by decide +kernel
theorem dX14_quota_20 : decode cX14_quota 20 = .ok (.iconst 0, 1) := by decide +kernel
theorem dX14_quota_21 : decode cX14_quota 21 = .ok (.bipush 100, 2) := by decide +kernel
theorem dX14_quota_23 : decode cX14_quota 23 = .ok (.invokestatic 30, 3) := by decide +kernel
theorem dX14_quota_26 : decode cX14_quota 26 = .ok (.ifCond .ne 9, 3) := by decide +kernel
theorem dX14_quota_29 : decode cX14_quota 29 = .ok (.aload_n 0, 1) := by decide +kernel
theorem dX14_quota_30 : decode cX14_quota 30 = .ok (.iconst 2, 1) := by decide +kernel
theorem dX14_quota_31 : decode cX14_quota 31 = .ok (.invokevirtual 43, 3) := by decide +kernel
theorem dX14_quota_34 : decode cX14_quota 34 = .ok (.ireturn, 1) := by decide +kernel
theorem dX14_quota_35 : decode cX14_quota 35 = .ok (.aload_n 0, 1) := by decide +kernel
theorem dX14_quota_36 : decode cX14_quota 36 = .ok (.getfield 10, 3) := by decide +kernel
theorem dX14_quota_39 : decode cX14_quota 39 = .ok (.getfield 37, 3) := by decide +kernel
theorem dX14_quota_42 : decode cX14_quota 42 = .ok (.iload_n 1, 1) := by decide +kernel
theorem dX14_quota_43 : decode cX14_quota 43 = .ok (.invokevirtual 92, 3) := by decide +kernel
theorem dX14_quota_46 : decode cX14_quota 46 = .ok (.checkcast 153, 3) := by decide +kernel
theorem dX14_quota_49 : decode cX14_quota 49 = .ok (.iload_n 2, 1) := by decide +kernel
theorem dX14_quota_50 : decode cX14_quota 50 = .ok (.putfield 156, 3) := by decide +kernel
theorem dX14_quota_53 : decode cX14_quota 53 = .ok (.aload_n 0, 1) := by decide +kernel
theorem dX14_quota_54 : decode cX14_quota 54 = .ok (.getfield 10, 3) := by decide +kernel
theorem dX14_quota_57 : decode cX14_quota 57 = .ok (.iload_n 1, 1) := by decide +kernel
theorem dX14_quota_58 : decode cX14_quota 58 = .ok (.iload_n 2, 1) := by decide +kernel
theorem dX14_quota_59 : decode cX14_quota 59 = .ok (.invokevirtual 162, 3) := by decide +kernel
theorem dX14_quota_62 : decode cX14_quota 62 = .ok (.ireturn, 1) := by decide +kernel
theorem dX14_ofTeamNow_0 : decode cX14_ofTeamNow 0 = .ok (.aload_n 0, 1) := by decide +kernel
theorem dX14_ofTeamNow_1 : decode cX14_ofTeamNow 1 = .ok (.getfield 10, 3) := by decide +kernel
theorem dX14_ofTeamNow_4 : decode cX14_ofTeamNow 4 = .ok (.getfield 37, 3) := by decide +kernel
theorem dX14_ofTeamNow_7 : decode cX14_ofTeamNow 7 = .ok (.iload_n 1, 1) := by decide +kernel
theorem dX14_ofTeamNow_8 : decode cX14_ofTeamNow 8 = .ok (.invokevirtual 92, 3) := by decide +kernel
theorem dX14_ofTeamNow_11 : decode cX14_ofTeamNow 11 = .ok (.checkcast 153, 3) := by decide +kernel
theorem dX14_ofTeamNow_14 : decode cX14_ofTeamNow 14 = .ok (.astore_n 3, 1) := by decide +kernel
theorem dX14_ofTeamNow_15 : decode cX14_ofTeamNow 15 = .ok (.iconst 5, 1) := by decide +kernel
theorem dX14_ofTeamNow_16 : decode cX14_ofTeamNow 16 = .ok (.newarray .int, 2) := by decide +kernel
theorem dX14_ofTeamNow_18 : decode cX14_ofTeamNow 18 = .ok (.dup, 1) := by decide +kernel
theorem dX14_ofTeamNow_19 : decode cX14_ofTeamNow 19 = .ok (.iconst 0, 1) := by decide +kernel
theorem dX14_ofTeamNow_20 : decode cX14_ofTeamNow 20 = .ok (.aload_n 3, 1) := by decide +kernel
theorem dX14_ofTeamNow_21 : decode cX14_ofTeamNow 21 = .ok (.getfield 156, 3) := by decide +kernel
theorem dX14_ofTeamNow_24 : decode cX14_ofTeamNow 24 = .ok (.iastore, 1) := by decide +kernel
theorem dX14_ofTeamNow_25 : decode cX14_ofTeamNow 25 = .ok (.dup, 1) := by decide +kernel
theorem dX14_ofTeamNow_26 : decode cX14_ofTeamNow 26 = .ok (.iconst 1, 1) := by decide +kernel
theorem dX14_ofTeamNow_27 : decode cX14_ofTeamNow 27 = .ok (.aload_n 0, 1) := by decide +kernel
theorem dX14_ofTeamNow_28 : decode cX14_ofTeamNow 28 = .ok (.getfield 10, 3) := by decide +kernel
theorem dX14_ofTeamNow_31 : decode cX14_ofTeamNow 31 = .ok (.iload_n 1, 1) := by decide +kernel
theorem dX14_ofTeamNow_32 : decode cX14_ofTeamNow 32 = .ok (.invokevirtual 165, 3) := by decide +kernel
theorem dX14_ofTeamNow_35 : decode cX14_ofTeamNow 35 = .ok (.iastore, 1) := by decide +kernel
theorem dX14_ofTeamNow_36 : decode cX14_ofTeamNow 36 = .ok (.dup, 1) := by decide +kernel
theorem dX14_ofTeamNow_37 : decode cX14_ofTeamNow 37 = .ok (.iconst 2, 1) := by decide +kernel
theorem dX14_ofTeamNow_38 : decode cX14_ofTeamNow 38 = .ok (.aload_n 3, 1) := by decide +kernel
theorem dX14_ofTeamNow_39 : decode cX14_ofTeamNow 39 = .ok (.getfield 168, 3) := by decide +kernel
theorem dX14_ofTeamNow_42 : decode cX14_ofTeamNow 42 = .ok (.iastore, 1) := by decide +kernel
theorem dX14_ofTeamNow_43 : decode cX14_ofTeamNow 43 = .ok (.dup, 1) := by decide +kernel
theorem dX14_ofTeamNow_44 : decode cX14_ofTeamNow 44 = .ok (.iconst 3, 1) := by decide +kernel
theorem dX14_ofTeamNow_45 : decode cX14_ofTeamNow 45 = .ok (.aload_n 3, 1) := by decide +kernel
theorem dX14_ofTeamNow_46 : decode cX14_ofTeamNow 46 = .ok (.getfield 171, 3) := by decide +kernel
theorem dX14_ofTeamNow_49 : decode cX14_ofTeamNow 49 = .ok (.iastore, 1) := by decide +kernel
theorem dX14_ofTeamNow_50 : decode cX14_ofTeamNow 50 = .ok (.dup, 1) := by decide +kernel
theorem dX14_ofTeamNow_51 : decode cX14_ofTeamNow 51 = .ok (.iconst 4, 1) := by decide +kernel
theorem dX14_ofTeamNow_52 : decode cX14_ofTeamNow 52 = .ok (.aload_n 0, 1) := by decide +kernel
theorem dX14_ofTeamNow_53 : decode cX14_ofTeamNow 53 = .ok (.iconst (-1), 1) := by decide +kernel
theorem dX14_ofTeamNow_54 : decode cX14_ofTeamNow 54 = .ok (.iload_n 1, 1) := by decide +kernel
theorem dX14_ofTeamNow_55 : decode cX14_ofTeamNow 55 = .ok (.invokevirtual 115, 3) := by decide +kernel
theorem dX14_ofTeamNow_58 : decode cX14_ofTeamNow 58 = .ok (.iastore, 1) := by decide +kernel
theorem dX14_ofTeamNow_59 : decode cX14_ofTeamNow 59 = .ok (.astore 4, 2) := by decide +kernel
theorem dX14_ofTeamNow_61 : decode cX14_ofTeamNow 61 = .ok (.aload 4, 2) := by decide +kernel
theorem dX14_ofTeamNow_63 : decode cX14_ofTeamNow 63 = .ok (.iload_n 2, 1) := by decide +kernel
theorem dX14_ofTeamNow_64 : decode cX14_ofTeamNow 64 = .ok (.iaload, 1) := by decide +kernel
theorem dX14_ofTeamNow_65 : decode cX14_ofTeamNow 65 = .ok (.ireturn, 1) := by decide +kernel
theorem dX14_ofTeam_0 : decode cX14_ofTeam 0 = .ok (.aload_n 0, 1) := by decide +kernel
theorem dX14_ofTeam_1 : decode cX14_ofTeam 1 = .ok (.iconst 0, 1) := by decide +kernel
theorem dX14_ofTeam_2 : decode cX14_ofTeam 2 = .ok (.putfield 16, 3) := by decide +kernel
theorem dX14_ofTeam_5 : decode cX14_ofTeam 5 = .ok (.aload_n 0, 1) := by decide +kernel
theorem dX14_ofTeam_6 : decode cX14_ofTeam 6 = .ok (.iload_n 1, 1) := by decide +kernel
theorem dX14_ofTeam_7 : decode cX14_ofTeam 7 = .ok (.invokevirtual 159, 3) := by decide +kernel
theorem dX14_ofTeam_10 : decode cX14_ofTeam 10 = .ok (.ifCond .ne 9, 3) := by decide +kernel
theorem dX14_ofTeam_13 : decode cX14_ofTeam 13 = .ok (.aload_n 0, 1) := by decide +kernel
theorem dX14_ofTeam_14 : decode cX14_ofTeam 14 = .ok (.iconst 1, 1) := by decide +kernel
theorem dX14_ofTeam_15 : decode cX14_ofTeam 15 = .ok (.invokevirtual 43, 3) := by decide +kernel
theorem dX14_ofTeam_18 : decode cX14_ofTeam 18 = .ok (.ireturn, 1) := by decide +kernel
theorem dX14_ofTeam_19 : decode cX14_ofTeam 19 = .ok (.iload_n 2, 1) := by decide +kernel
theorem dX14_ofTeam_20 : decode cX14_ofTeam 20 = .ok (.iconst 0, 1) := by decide +kernel
theorem dX14_ofTeam_21 : decode cX14_ofTeam 21 = .ok (.iconst 4, 1) := by decide +kernel
theorem dX14_ofTeam_22 : decode cX14_ofTeam 22 = .ok (.invokestatic 30, 3) := by decide +kernel
theorem dX14_ofTeam_25 : decode cX14_ofTeam 25 = .ok (.ifCond .eq 12, 3) := by decide +kernel
theorem dX14_ofTeam_28 : decode cX14_ofTeam 28 = .ok (.aload_n 0, 1) := by decide +kernel
theorem dX14_ofTeam_29 : decode cX14_ofTeam 29 = .ok (.iload_n 1, 1) := by decide +kernel
theorem dX14_ofTeam_30 : decode cX14_ofTeam 30 = .ok (.iload_n 2, 1) := by decide +kernel
theorem dX14_ofTeam_31 : decode cX14_ofTeam 31 = .ok (.invokevirtual 174, 3) := by decide +kernel
theorem dX14_ofTeam_34 : decode cX14_ofTeam 34 = .ok (.goto 8, 3) := by decide +kernel
theorem dX14_ofTeam_37 : decode cX14_ofTeam 37 = .ok (.aload_n 0, 1) := by decide +kernel
theorem dX14_ofTeam_38 : decode cX14_ofTeam 38 = .ok (.iconst 2, 1) := by decide +kernel
theorem dX14_ofTeam_39 : decode cX14_ofTeam 39 = .ok (.invokevirtual 43, 3) := by decide +kernel
theorem dX14_ofTeam_42 : decode cX14_ofTeam 42 = .ok (.ireturn, 1) := by decide +kernel
theorem dX14_build_0 : decode cX14_build 0 = .ok (.aload_n 0, 1) := by decide +kernel
theorem dX14_build_1 : decode cX14_build 1 = .ok (.iconst 0, 1) := by decide +kernel
theorem dX14_build_2 : decode cX14_build 2 = .ok (.putfield 16, 3) := by decide +kernel
theorem dX14_build_5 : decode cX14_build 5 = .ok (.aload_n 0, 1) := by decide +kernel
theorem dX14_build_6 : decode cX14_build 6 = .ok (.iload_n 1, 1) := by decide +kernel
theorem dX14_build_7 : decode cX14_build 7 = .ok (.invokevirtual 159, 3) := by decide +kernel
theorem dX14_build_10 : decode cX14_build 10 = .ok (.ifCond .eq 11, 3) := by decide +kernel
theorem dX14_build_13 : decode cX14_build 13 = .ok (.aload_n 0, 1) := by decide +kernel
theorem dX14_build_14 : decode cX14_build 14 = .ok (.iload_n 2, 1) := by decide +kernel
theorem dX14_build_15 : decode cX14_build 15 = .ok (.invokevirtual 119, 3) := by decide +kernel
theorem dX14_build_18 : decode cX14_build 18 = .ok (.ifCond .ne 9, 3) := by decide +kernel
theorem dX14_build_21 : decode cX14_build 21 = .ok (.aload_n 0, 1) := by decide +kernel
theorem dX14_build_22 : decode cX14_build 22 = .ok (.iconst 1, 1) := by decide +kernel
theorem dX14_build_23 : decode cX14_build 23 = .ok (.invokevirtual 43, 3) := by decide +kernel
theorem dX14_build_26 : decode cX14_build 26 = .ok (.ireturn, 1) := by decide +kernel
theorem dX14_build_27 : decode cX14_build 27 = .ok (.aload_n 0, 1) := by decide +kernel
theorem dX14_build_28 : decode cX14_build 28 = .ok (.getfield 10, 3) := by decide +kernel
theorem dX14_build_31 : decode cX14_build 31 = .ok (.invokevirtual 177, 3) := by decide +kernel
theorem dX14_build_34 : decode cX14_build 34 = .ok (.astore_n 3, 1) := by decide +kernel
theorem dX14_build_35 : decode cX14_build 35 = .ok (.aload_n 3, 1) := by decide +kernel
theorem dX14_build_36 : decode cX14_build 36 = .ok (.iload_n 1, 1) := by decide +kernel
theorem dX14_build_37 : decode cX14_build 37 = .ok (.iload_n 2, 1) := by decide +kernel
theorem dX14_build_38 : decode cX14_build 38 = .ok (.invokevirtual 181, 3) := by decide +kernel
theorem dX14_build_41 : decode cX14_build 41 = .ok (.istore 4, 2) := by decide +kernel
theorem dX14_build_43 : decode cX14_build 43 = .ok (.iload 4, 2) := by decide +kernel
theorem dX14_build_45 : decode cX14_build 45 = .ok (.iconst (-1), 1) := by decide +kernel
theorem dX14_build_46 : decode cX14_build 46 = .ok (.if_icmp .ne 9, 3) := by decide +kernel
theorem dX14_build_49 : decode cX14_build 49 = .ok (.aload_n 0, 1) := by decide +kernel
theorem dX14_build_50 : decode cX14_build 50 = .ok (.iconst 2, 1) := by decide +kernel
theorem dX14_build_51 : decode cX14_build 51 = .ok (.invokevirtual 43, 3) := by decide +kernel
theorem dX14_build_54 : decode cX14_build 54 = .ok (.ireturn, 1) := by decide +kernel
theorem dX14_build_55 : decode cX14_build 55 = .ok (.aload_n 0, 1) := by decide +kernel
theorem dX14_build_56 : decode cX14_build 56 = .ok (.aload_n 3, 1) := by decide +kernel
theorem dX14_build_57 : decode cX14_build 57 = .ok (.putfield 10, 3) := by decide +kernel
theorem dX14_build_60 : decode cX14_build 60 = .ok (.iload 4, 2) := by decide +kernel
theorem dX14_build_62 : decode cX14_build 62 = .ok (.ireturn, 1) := by decide +kernel
theorem dX14_check_0 : decode cX14_check 0 = .ok (.aload_n 0, 1) := by decide +kernel
theorem dX14_check_1 : decode cX14_check 1 = .ok (.iconst 0, 1) := by decide +kernel
theorem dX14_check_2 : decode cX14_check 2 = .ok (.putfield 16, 3) := by decide +kernel
theorem dX14_check_5 : decode cX14_check 5 = .ok (.iload_n 1, 1) := by decide +kernel
theorem dX14_check_6 : decode cX14_check 6 = .ok (.iconst 0, 1) := by decide +kernel
theorem dX14_check_7 : decode cX14_check 7 = .ok (.bipush 9, 2) := by decide +kernel
theorem dX14_check_9 : decode cX14_check 9 = .ok (.invokestatic 30, 3) := by decide +kernel
theorem dX14_check_12 : decode cX14_check 12 = .ok (.ifCond .ne 9, 3) := by decide +kernel
theorem dX14_check_15 : decode cX14_check 15 = .ok (.aload_n 0, 1) := by decide +kernel
theorem dX14_check_16 : decode cX14_check 16 = .ok (.iconst 1, 1) := by decide +kernel
theorem dX14_check_17 : decode cX14_check 17 = .ok (.invokevirtual 43, 3) := by decide +kernel
theorem dX14_check_20 : decode cX14_check 20 = .ok (.ireturn, 1) := by decide +kernel
theorem dX14_check_21 : decode cX14_check 21 = .ok (.aload_n 0, 1) := by decide +kernel
theorem dX14_check_22 : decode cX14_check 22 = .ok (.getfield 10, 3) := by decide +kernel
theorem dX14_check_25 : decode cX14_check 25 = .ok (.getfield 184, 3) := by decide +kernel
theorem dX14_check_28 : decode cX14_check 28 = .ok (.istore_n 2, 1) := by decide +kernel
theorem dX14_check_29 : decode cX14_check 29 = .ok (.aload_n 0, 1) := by decide +kernel
theorem dX14_check_30 : decode cX14_check 30 = .ok (.getfield 10, 3) := by decide +kernel
theorem dX14_check_33 : decode cX14_check 33 = .ok (.iload_n 1, 1) := by decide +kernel
theorem dX14_check_34 : decode cX14_check 34 = .ok (.putfield 184, 3) := by decide +kernel
theorem dX14_check_37 : decode cX14_check 37 = .ok (.iload_n 2, 1) := by decide +kernel
theorem dX14_check_38 : decode cX14_check 38 = .ok (.ireturn, 1) := by decide +kernel
theorem dX14_isOther_0 : decode cX14_isOther 0 = .ok (.iconst 0, 1) := by decide +kernel
theorem dX14_isOther_1 : decode cX14_isOther 1 = .ok (.istore_n 2, 1) := by decide +kernel
theorem dX14_isOther_2 : decode cX14_isOther 2 = .ok (.iconst 0, 1) := by decide +kernel
theorem dX14_isOther_3 : decode cX14_isOther 3 = .ok (.istore_n 3, 1) := by decide +kernel
theorem dX14_isOther_4 : decode cX14_isOther 4 = .ok (.iload_n 3, 1) := by decide +kernel
theorem dX14_isOther_5 : decode cX14_isOther 5 = .ok (.bipush 8, 2) := by decide +kernel
theorem dX14_isOther_7 : decode cX14_isOther 7 = .ok (.if_icmp .ge 52, 3) := by decide +kernel
theorem dX14_isOther_10 : decode cX14_isOther 10 = .ok (.iload_n 2, 1) := by decide +kernel
theorem dX14_isOther_11 : decode cX14_isOther 11 = .ok (.aload_n 1, 1) := by decide +kernel
theorem dX14_isOther_12 : decode cX14_isOther 12 = .ok (.getfield 82, 3) := by decide +kernel
theorem dX14_isOther_15 : decode cX14_isOther 15 = .ok (.getfield 96, 3) := by decide +kernel
theorem dX14_isOther_18 : decode cX14_isOther 18 = .ok (.iload_n 3, 1) := by decide +kernel
theorem dX14_isOther_19 : decode cX14_isOther 19 = .ok (.invokestatic 187, 3) := by decide +kernel
theorem dX14_isOther_22 : decode cX14_isOther 22 = .ok (.ifCond .eq 28, 3) := by decide +kernel
theorem dX14_isOther_25 : decode cX14_isOther 25 = .ok (.aload_n 1, 1) := by decide +kernel
theorem dX14_isOther_26 : decode cX14_isOther 26 = .ok (.getfield 191, 3) := by decide +kernel
theorem dX14_isOther_29 : decode cX14_isOther 29 = .ok (.getfield 195, 3) := by decide +kernel
theorem dX14_isOther_32 : decode cX14_isOther 32 = .ok (.iload_n 3, 1) := by decide +kernel
theorem dX14_isOther_33 : decode cX14_isOther 33 = .ok (.iaload, 1) := by decide +kernel
theorem dX14_isOther_34 : decode cX14_isOther 34 = .ok (.aload_n 0, 1) := by decide +kernel
theorem dX14_isOther_35 : decode cX14_isOther 35 = .ok (.getfield 10, 3) := by decide +kernel
theorem dX14_isOther_38 : decode cX14_isOther 38 = .ok (.getfield 56, 3) := by decide +kernel
theorem dX14_isOther_41 : decode cX14_isOther 41 = .ok (.iload_n 3, 1) := by decide +kernel
theorem dX14_isOther_42 : decode cX14_isOther 42 = .ok (.iaload, 1) := by decide +kernel
theorem dX14_isOther_43 : decode cX14_isOther 43 = .ok (.if_icmp .eq 7, 3) := by decide +kernel
theorem dX14_isOther_46 : decode cX14_isOther 46 = .ok (.iconst 1, 1) := by decide +kernel
theorem dX14_isOther_47 : decode cX14_isOther 47 = .ok (.goto 4, 3) := by decide +kernel
theorem dX14_isOther_50 : decode cX14_isOther 50 = .ok (.iconst 0, 1) := by decide +kernel
theorem dX14_isOther_51 : decode cX14_isOther 51 = .ok (.ior, 1) := by decide +kernel
theorem dX14_isOther_52 : decode cX14_isOther 52 = .ok (.istore_n 2, 1) := by decide +kernel
theorem dX14_isOther_53 : decode cX14_isOther 53 = .ok (.iinc 3 1, 3) := by decide +kernel
theorem dX14_isOther_56 : decode cX14_isOther 56 = .ok (.goto (-52), 3) := by decide +kernel
theorem dX14_isOther_59 : decode cX14_isOther 59 = .ok (.iconst 0, 1) := by decide +kernel
theorem dX14_isOther_60 : decode cX14_isOther 60 = .ok (.istore_n 3, 1) := by decide +kernel
theorem dX14_isOther_61 : decode cX14_isOther 61 = .ok (.iload_n 3, 1) := by decide +kernel
theorem dX14_isOther_62 : decode cX14_isOther 62 = .ok (.bipush 6, 2) := by decide +kernel
theorem dX14_isOther_64 : decode cX14_isOther 64 = .ok (.if_icmp .ge 49, 3) := by decide +kernel
theorem dX14_isOther_67 : decode cX14_isOther 67 = .ok (.iload_n 2, 1) := by decide +kernel
theorem dX14_isOther_68 : decode cX14_isOther 68 = .ok (.aload_n 1, 1) := by decide +kernel
theorem dX14_isOther_69 : decode cX14_isOther 69 = .ok (.getfield 198, 3) := by decide +kernel
theorem dX14_isOther_72 : decode cX14_isOther 72 = .ok (.iload_n 3, 1) := by decide +kernel
theorem dX14_isOther_73 : decode cX14_isOther 73 = .ok (.invokestatic 187, 3) := by decide +kernel
theorem dX14_isOther_76 : decode cX14_isOther 76 = .ok (.ifCond .eq 28, 3) := by decide +kernel
theorem dX14_isOther_79 : decode cX14_isOther 79 = .ok (.aload_n 1, 1) := by decide +kernel
theorem dX14_isOther_80 : decode cX14_isOther 80 = .ok (.getfield 191, 3) := by decide +kernel
theorem dX14_isOther_83 : decode cX14_isOther 83 = .ok (.getfield 201, 3) := by decide +kernel
theorem dX14_isOther_86 : decode cX14_isOther 86 = .ok (.iload_n 3, 1) := by decide +kernel
theorem dX14_isOther_87 : decode cX14_isOther 87 = .ok (.iaload, 1) := by decide +kernel
theorem dX14_isOther_88 : decode cX14_isOther 88 = .ok (.aload_n 0, 1) := by decide +kernel
theorem dX14_isOther_89 : decode cX14_isOther 89 = .ok (.getfield 10, 3) := by decide +kernel
theorem dX14_isOther_92 : decode cX14_isOther 92 = .ok (.getfield 60, 3) := by decide +kernel
theorem dX14_isOther_95 : decode cX14_isOther 95 = .ok (.iload_n 3, 1) := by decide +kernel
theorem dX14_isOther_96 : decode cX14_isOther 96 = .ok (.iaload, 1) := by decide +kernel
theorem dX14_isOther_97 : decode cX14_isOther 97 = .ok (.if_icmp .eq 7, 3) := by decide +kernel
theorem dX14_isOther_100 : decode cX14_isOther 100 = .ok (.iconst 1, 1) := by decide +kernel
theorem dX14_isOther_101 : decode cX14_isOther 101 = .ok (.goto 4, 3) := by decide +kernel
theorem dX14_isOther_104 : decode cX14_isOther 104 = .ok (.iconst 0, 1) := by decide +kernel
theorem dX14_isOther_105 : decode cX14_isOther 105 = .ok (.ior, 1) := by decide +kernel
theorem dX14_isOther_106 : decode cX14_isOther 106 = .ok (.istore_n 2, 1) := by decide +kernel
theorem dX14_isOther_107 : decode cX14_isOther 107 = .ok (.iinc 3 1, 3) := by decide +kernel
theorem dX14_isOther_110 : decode cX14_isOther 110 = .ok (.goto (-49), 3) := by decide +kernel
theorem dX14_isOther_113 : decode cX14_isOther 113 = .ok (.iload_n 2, 1) := by decide +kernel
theorem dX14_isOther_114 : decode cX14_isOther 114 = .ok (.ireturn, 1) := by decide +kernel
theorem dX14_recheck_0 : decode cX14_recheck 0 = .ok (.aload_n 0, 1) := by decide +kernel
theorem dX14_recheck_1 : decode cX14_recheck 1 = .ok (.iconst 0, 1) := by decide +kernel
theorem dX14_recheck_2 : decode cX14_recheck 2 = .ok (.putfield 16, 3) := by decide +kernel
theorem dX14_recheck_5 : decode cX14_recheck 5 = .ok (.aload_n 0, 1) := by decide +kernel
theorem dX14_recheck_6 : decode cX14_recheck 6 = .ok (.iload_n 1, 1) := by decide +kernel
theorem dX14_recheck_7 : decode cX14_recheck 7 = .ok (.invokevirtual 202, 3) := by decide +kernel
theorem dX14_recheck_10 : decode cX14_recheck 10 = .ok (.ifCond .ne 9, 3) := by decide +kernel
theorem dX14_recheck_13 : decode cX14_recheck 13 = .ok (.aload_n 0, 1) := by decide +kernel
theorem dX14_recheck_14 : decode cX14_recheck 14 = .ok (.iconst 1, 1) := by decide +kernel
theorem dX14_recheck_15 : decode cX14_recheck 15 = .ok (.invokevirtual 43, 3) := by decide +kernel
theorem dX14_recheck_18 : decode cX14_recheck 18 = .ok (.ireturn, 1) := by decide +kernel
theorem dX14_recheck_19 : decode cX14_recheck 19 = .ok (.aload_n 0, 1) := by decide +kernel
theorem dX14_recheck_20 : decode cX14_recheck 20 = .ok (.getfield 10, 3) := by decide +kernel
theorem dX14_recheck_23 : decode cX14_recheck 23 = .ok (.getfield 40, 3) := by decide +kernel
theorem dX14_recheck_26 : decode cX14_recheck 26 = .ok (.iload_n 1, 1) := by decide +kernel
theorem dX14_recheck_27 : decode cX14_recheck 27 = .ok (.invokevirtual 92, 3) := by decide +kernel
theorem dX14_recheck_30 : decode cX14_recheck 30 = .ok (.checkcast 77, 3) := by decide +kernel
theorem dX14_recheck_33 : decode cX14_recheck 33 = .ok (.astore_n 2, 1) := by decide +kernel
theorem dX14_recheck_34 : decode cX14_recheck 34 = .ok (.aload_n 2, 1) := by decide +kernel
theorem dX14_recheck_35 : decode cX14_recheck 35 = .ok (.getfield 79, 3) := by decide +kernel
theorem dX14_recheck_38 : decode cX14_recheck 38 = .ok (.ifCond .ne 26, 3) := by decide +kernel
theorem dX14_recheck_41 : decode cX14_recheck 41 = .ok (.aload_n 0, 1) := by decide +kernel
theorem dX14_recheck_42 : decode cX14_recheck 42 = .ok (.aload_n 2, 1) := by decide +kernel
theorem dX14_recheck_43 : decode cX14_recheck 43 = .ok (.invokevirtual 205, 3) := by decide +kernel
theorem dX14_recheck_46 : decode cX14_recheck 46 = .ok (.ifCond .ne 18, 3) := by decide +kernel
theorem dX14_recheck_49 : decode cX14_recheck 49 = .ok (.aload_n 0, 1) := by decide +kernel
theorem dX14_recheck_50 : decode cX14_recheck 50 = .ok (.getfield 10, 3) := by decide +kernel
theorem dX14_recheck_53 : decode cX14_recheck 53 = .ok (.getfield 40, 3) := by decide +kernel
theorem dX14_recheck_56 : decode cX14_recheck 56 = .ok (.invokevirtual 24, 3) := by decide +kernel
theorem dX14_recheck_59 : decode cX14_recheck 59 = .ok (.bipush 60, 2) := by decide +kernel
theorem dX14_recheck_61 : decode cX14_recheck 61 = .ok (.if_icmp .ne 9, 3) := by decide +kernel
theorem dX14_recheck_64 : decode cX14_recheck 64 = .ok (.aload_n 0, 1) := by decide +kernel
theorem dX14_recheck_65 : decode cX14_recheck 65 = .ok (.iconst 2, 1) := by decide +kernel
theorem dX14_recheck_66 : decode cX14_recheck 66 = .ok (.invokevirtual 43, 3) := by decide +kernel
theorem dX14_recheck_69 : decode cX14_recheck 69 = .ok (.ireturn, 1) := by decide +kernel
theorem dX14_recheck_70 : decode cX14_recheck 70 = .ok (.aload_n 0, 1) := by decide +kernel
theorem dX14_recheck_71 : decode cX14_recheck 71 = .ok (.getfield 10, 3) := by decide +kernel
theorem dX14_recheck_74 : decode cX14_recheck 74 = .ok (.iload_n 1, 1) := by decide +kernel
theorem dX14_recheck_75 : decode cX14_recheck 75 = .ok (.aload_n 0, 1) := by decide +kernel
theorem dX14_recheck_76 : decode cX14_recheck 76 = .ok (.getfield 10, 3) := by decide +kernel
theorem dX14_recheck_79 : decode cX14_recheck 79 = .ok (.aload_n 2, 1) := by decide +kernel
theorem dX14_recheck_80 : decode cX14_recheck 80 = .ok (.getfield 82, 3) := by decide +kernel
theorem dX14_recheck_83 : decode cX14_recheck 83 = .ok (.aload_n 2, 1) := by decide +kernel
theorem dX14_recheck_84 : decode cX14_recheck 84 = .ok (.getfield 191, 3) := by decide +kernel
theorem dX14_recheck_87 : decode cX14_recheck 87 = .ok (.getfield 209, 3) := by decide +kernel
theorem dX14_recheck_90 : decode cX14_recheck 90 = .ok (.aload_n 2, 1) := by decide +kernel
theorem dX14_recheck_91 : decode cX14_recheck 91 = .ok (.getfield 191, 3) := by decide +kernel
theorem dX14_recheck_94 : decode cX14_recheck 94 = .ok (.getfield 212, 3) := by decide +kernel
theorem dX14_recheck_97 : decode cX14_recheck 97 = .ok (.invokevirtual 215, 3) := by decide +kernel
theorem dX14_recheck_100 : decode cX14_recheck 100 = .ok (.aload_n 2, 1) := by decide +kernel
theorem dX14_recheck_101 : decode cX14_recheck 101 = .ok (.getfield 89, 3) := by decide +kernel
theorem dX14_recheck_104 : decode cX14_recheck 104 = .ok (.invokevirtual 219, 3) := by decide +kernel
theorem dX14_recheck_107 : decode cX14_recheck 107 = .ok (.ireturn, 1) := by decide +kernel
theorem dX14_ofEntryNow_0 : decode cX14_ofEntryNow 0 = .ok (.aload_n 0, 1) := by decide +kernel
theorem dX14_ofEntryNow_1 : decode cX14_ofEntryNow 1 = .ok (.getfield 10, 3) := by decide +kernel
theorem dX14_ofEntryNow_4 : decode cX14_ofEntryNow 4 = .ok (.getfield 40, 3) := by decide +kernel
theorem dX14_ofEntryNow_7 : decode cX14_ofEntryNow 7 = .ok (.iload_n 1, 1) := by decide +kernel
theorem dX14_ofEntryNow_8 : decode cX14_ofEntryNow 8 = .ok (.invokevirtual 92, 3) := by decide +kernel
theorem dX14_ofEntryNow_11 : decode cX14_ofEntryNow 11 = .ok (.checkcast 77, 3) := by decide +kernel
theorem dX14_ofEntryNow_14 : decode cX14_ofEntryNow 14 = .ok (.astore_n 3, 1) := by decide +kernel
theorem dX14_ofEntryNow_15 : decode cX14_ofEntryNow 15 = .ok (.iload_n 2, 1) := by decide +kernel
theorem dX14_ofEntryNow_16 : decode cX14_ofEntryNow 16 = .ok (.bipush 7, 2) := by decide +kernel
theorem dX14_ofEntryNow_18 : decode cX14_ofEntryNow 18 = .ok (.if_icmp .ne 62, 3) := by decide +kernel
theorem dX14_ofEntryNow_21 : decode cX14_ofEntryNow 21 = .ok (.iconst 0, 1) := by decide +kernel
theorem dX14_ofEntryNow_22 : decode cX14_ofEntryNow 22 = .ok (.istore 4, 2) := by decide +kernel
theorem dX14_ofEntryNow_24 : decode cX14_ofEntryNow 24 = .ok (.aload_n 0, 1) := by decide +kernel
theorem dX14_ofEntryNow_25 : decode cX14_ofEntryNow 25 = .ok (.getfield 10, 3) := by decide +kernel
theorem dX14_ofEntryNow_28 : decode cX14_ofEntryNow 28 = .ok (.iload_n 1, 1) := by decide +kernel
theorem dX14_ofEntryNow_29 : decode cX14_ofEntryNow 29 = .ok (.invokevirtual 223, 3) := by decide +kernel
theorem dX14_ofEntryNow_32 : decode cX14_ofEntryNow 32 = .ok (.astore 5, 2) := by decide +kernel
theorem dX14_ofEntryNow_34 : decode cX14_ofEntryNow 34 = .ok (.aload 5, 2) := by decide +kernel
theorem dX14_ofEntryNow_36 : decode cX14_ofEntryNow 36 = .ok (.arraylength, 1) := by decide +kernel
theorem dX14_ofEntryNow_37 : decode cX14_ofEntryNow 37 = .ok (.istore 6, 2) := by decide +kernel
theorem dX14_ofEntryNow_39 : decode cX14_ofEntryNow 39 = .ok (.iconst 0, 1) := by decide +kernel
theorem dX14_ofEntryNow_40 : decode cX14_ofEntryNow 40 = .ok (.istore 7, 2) := by decide +kernel
theorem dX14_ofEntryNow_42 : decode cX14_ofEntryNow 42 = .ok (.iload 7, 2) := by decide +kernel
theorem dX14_ofEntryNow_44 : decode cX14_ofEntryNow 44 = .ok (.iload 6, 2) := by decide +kernel
theorem dX14_ofEntryNow_46 : decode cX14_ofEntryNow 46 = .ok (.if_icmp .ge 31, 3) := by decide +kernel
theorem dX14_ofEntryNow_49 : decode cX14_ofEntryNow 49 = .ok (.aload 5, 2) := by decide +kernel
theorem dX14_ofEntryNow_51 : decode cX14_ofEntryNow 51 = .ok (.iload 7, 2) := by decide +kernel
theorem dX14_ofEntryNow_53 : decode cX14_ofEntryNow 53 = .ok (.baload, 1) := by decide +kernel
theorem dX14_ofEntryNow_54 : decode cX14_ofEntryNow 54 = .ok (.istore 8, 2) := by decide +kernel
theorem dX14_ofEntryNow_56 : decode cX14_ofEntryNow 56 = .ok (.iload 4, 2) := by decide +kernel
theorem dX14_ofEntryNow_58 : decode cX14_ofEntryNow 58 = .ok (.iload 8, 2) := by decide +kernel
theorem dX14_ofEntryNow_60 : decode cX14_ofEntryNow 60 = .ok (.ifCond .eq 7, 3) := by decide +kernel
theorem dX14_ofEntryNow_63 : decode cX14_ofEntryNow 63 = .ok (.iconst 1, 1) := by decide +kernel
theorem dX14_ofEntryNow_64 : decode cX14_ofEntryNow 64 = .ok (.goto 4, 3) := by decide +kernel
theorem dX14_ofEntryNow_67 : decode cX14_ofEntryNow 67 = .ok (.iconst 0, 1) := by decide +kernel
theorem dX14_ofEntryNow_68 : decode cX14_ofEntryNow 68 = .ok (.iadd, 1) := by decide +kernel
theorem dX14_ofEntryNow_69 : decode cX14_ofEntryNow 69 = .ok (.istore 4, 2) := by decide +kernel
theorem dX14_ofEntryNow_71 : decode cX14_ofEntryNow 71 = .ok (.iinc 7 1, 3) := by decide +kernel
theorem dX14_ofEntryNow_74 : decode cX14_ofEntryNow 74 = .ok (.goto (-32), 3) := by decide +kernel
theorem dX14_ofEntryNow_77 : decode cX14_ofEntryNow 77 = .ok (.iload 4, 2) := by decide +kernel
theorem dX14_ofEntryNow_79 : decode cX14_ofEntryNow 79 = .ok (.ireturn, 1) := by decide +kernel
theorem dX14_ofEntryNow_80 : decode cX14_ofEntryNow 80 = .ok (.bipush 7, 2) := by decide +kernel
theorem dX14_ofEntryNow_82 : decode cX14_ofEntryNow 82 = .ok (.newarray .int, 2) := by decide +kernel
theorem dX14_ofEntryNow_84 : decode cX14_ofEntryNow 84 = .ok (.dup, 1) := by decide +kernel
theorem dX14_ofEntryNow_85 : decode cX14_ofEntryNow 85 = .ok (.iconst 0, 1) := by decide +kernel
theorem dX14_ofEntryNow_86 : decode cX14_ofEntryNow 86 = .ok (.aload_n 3, 1) := by decide +kernel
theorem dX14_ofEntryNow_87 : decode cX14_ofEntryNow 87 = .ok (.getfield 82, 3) := by decide +kernel
theorem dX14_ofEntryNow_90 : decode cX14_ofEntryNow 90 = .ok (.getfield 86, 3) := by decide +kernel
theorem dX14_ofEntryNow_93 : decode cX14_ofEntryNow 93 = .ok (.iastore, 1) := by decide +kernel
theorem dX14_ofEntryNow_94 : decode cX14_ofEntryNow 94 = .ok (.dup, 1) := by decide +kernel
theorem dX14_ofEntryNow_95 : decode cX14_ofEntryNow 95 = .ok (.iconst 1, 1) := by decide +kernel
theorem dX14_ofEntryNow_96 : decode cX14_ofEntryNow 96 = .ok (.aload_n 3, 1) := by decide +kernel
theorem dX14_ofEntryNow_97 : decode cX14_ofEntryNow 97 = .ok (.getfield 132, 3) := by decide +kernel
theorem dX14_ofEntryNow_100 : decode cX14_ofEntryNow 100 = .ok (.iastore, 1) := by decide +kernel
theorem dX14_ofEntryNow_101 : decode cX14_ofEntryNow 101 = .ok (.dup, 1) := by decide +kernel
theorem dX14_ofEntryNow_102 : decode cX14_ofEntryNow 102 = .ok (.iconst 2, 1) := by decide +kernel
theorem dX14_ofEntryNow_103 : decode cX14_ofEntryNow 103 = .ok (.aload_n 3, 1) := by decide +kernel
theorem dX14_ofEntryNow_104 : decode cX14_ofEntryNow 104 = .ok (.getfield 89, 3) := by decide +kernel
theorem dX14_ofEntryNow_107 : decode cX14_ofEntryNow 107 = .ok (.iastore, 1) := by decide +kernel
theorem dX14_ofEntryNow_108 : decode cX14_ofEntryNow 108 = .ok (.dup, 1) := by decide +kernel
theorem dX14_ofEntryNow_109 : decode cX14_ofEntryNow 109 = .ok (.iconst 3, 1) := by decide +kernel
theorem dX14_ofEntryNow_110 : decode cX14_ofEntryNow 110 = .ok (.aload_n 3, 1) := by decide +kernel
theorem dX14_ofEntryNow_111 : decode cX14_ofEntryNow 111 = .ok (.getfield 227, 3) := by decide +kernel
theorem dX14_ofEntryNow_114 : decode cX14_ofEntryNow 114 = .ok (.iastore, 1) := by decide +kernel
theorem dX14_ofEntryNow_115 : decode cX14_ofEntryNow 115 = .ok (.dup, 1) := by decide +kernel
theorem dX14_ofEntryNow_116 : decode cX14_ofEntryNow 116 = .ok (.iconst 4, 1) := by decide +kernel
theorem dX14_ofEntryNow_117 : decode cX14_ofEntryNow 117 = .ok (.aload_n 3, 1) := by decide +kernel
theorem dX14_ofEntryNow_118 : decode cX14_ofEntryNow 118 = .ok (.getfield 230, 3) := by decide +kernel
theorem dX14_ofEntryNow_121 : decode cX14_ofEntryNow 121 = .ok (.iastore, 1) := by decide +kernel
theorem dX14_ofEntryNow_122 : decode cX14_ofEntryNow 122 = .ok (.dup, 1) := by decide +kernel
theorem dX14_ofEntryNow_123 : decode cX14_ofEntryNow 123 = .ok (.iconst 5, 1) := by decide +kernel
theorem dX14_ofEntryNow_124 : decode cX14_ofEntryNow 124 = .ok (.aload_n 3, 1) := by decide +kernel
theorem dX14_ofEntryNow_125 : decode cX14_ofEntryNow 125 = .ok (.getfield 79, 3) := by decide +kernel
theorem dX14_ofEntryNow_128 : decode cX14_ofEntryNow 128 = .ok (.iastore, 1) := by decide +kernel
theorem dX14_ofEntryNow_129 : decode cX14_ofEntryNow 129 = .ok (.dup, 1) := by decide +kernel
theorem dX14_ofEntryNow_130 : decode cX14_ofEntryNow 130 = .ok (.bipush 6, 2) := by decide +kernel
theorem dX14_ofEntryNow_132 : decode cX14_ofEntryNow 132 = .ok (.aload_n 3, 1) := by decide +kernel
theorem dX14_ofEntryNow_133 : decode cX14_ofEntryNow 133 = .ok (.invokevirtual 233, 3) := by decide +kernel
theorem dX14_ofEntryNow_136 : decode cX14_ofEntryNow 136 = .ok (.iastore, 1) := by decide +kernel
theorem dX14_ofEntryNow_137 : decode cX14_ofEntryNow 137 = .ok (.astore 4, 2) := by decide +kernel
theorem dX14_ofEntryNow_139 : decode cX14_ofEntryNow 139 = .ok (.aload 4, 2) := by decide +kernel
theorem dX14_ofEntryNow_141 : decode cX14_ofEntryNow 141 = .ok (.iload_n 2, 1) := by decide +kernel
theorem dX14_ofEntryNow_142 : decode cX14_ofEntryNow 142 = .ok (.iaload, 1) := by decide +kernel
theorem dX14_ofEntryNow_143 : decode cX14_ofEntryNow 143 = .ok (.ireturn, 1) := by decide +kernel
theorem dX14_ofEntry_0 : decode cX14_ofEntry 0 = .ok (.aload_n 0, 1) := by decide +kernel
theorem dX14_ofEntry_1 : decode cX14_ofEntry 1 = .ok (.iconst 0, 1) := by decide +kernel
theorem dX14_ofEntry_2 : decode cX14_ofEntry 2 = .ok (.putfield 16, 3) := by decide +kernel
theorem dX14_ofEntry_5 : decode cX14_ofEntry 5 = .ok (.aload_n 0, 1) := by decide +kernel
theorem dX14_ofEntry_6 : decode cX14_ofEntry 6 = .ok (.iload_n 1, 1) := by decide +kernel
theorem dX14_ofEntry_7 : decode cX14_ofEntry 7 = .ok (.invokevirtual 202, 3) := by decide +kernel
theorem dX14_ofEntry_10 : decode cX14_ofEntry 10 = .ok (.ifCond .ne 9, 3) := by decide +kernel
theorem dX14_ofEntry_13 : decode cX14_ofEntry 13 = .ok (.aload_n 0, 1) := by decide +kernel
theorem dX14_ofEntry_14 : decode cX14_ofEntry 14 = .ok (.iconst 1, 1) := by decide +kernel
theorem dX14_ofEntry_15 : decode cX14_ofEntry 15 = .ok (.invokevirtual 43, 3) := by decide +kernel
theorem dX14_ofEntry_18 : decode cX14_ofEntry 18 = .ok (.ireturn, 1) := by decide +kernel
theorem dX14_ofEntry_19 : decode cX14_ofEntry 19 = .ok (.iload_n 2, 1) := by decide +kernel
theorem dX14_ofEntry_20 : decode cX14_ofEntry 20 = .ok (.iconst 0, 1) := by decide +kernel
theorem dX14_ofEntry_21 : decode cX14_ofEntry 21 = .ok (.bipush 7, 2) := by decide +kernel
theorem dX14_ofEntry_23 : decode cX14_ofEntry 23 = .ok (.invokestatic 30, 3) := by decide +kernel
theorem dX14_ofEntry_26 : decode cX14_ofEntry 26 = .ok (.ifCond .eq 12, 3) := by decide +kernel
theorem dX14_ofEntry_29 : decode cX14_ofEntry 29 = .ok (.aload_n 0, 1) := by decide +kernel
theorem dX14_ofEntry_30 : decode cX14_ofEntry 30 = .ok (.iload_n 1, 1) := by decide +kernel
theorem dX14_ofEntry_31 : decode cX14_ofEntry 31 = .ok (.iload_n 2, 1) := by decide +kernel
theorem dX14_ofEntry_32 : decode cX14_ofEntry 32 = .ok (.invokevirtual 236, 3) := by decide +kernel
theorem dX14_ofEntry_35 : decode cX14_ofEntry 35 = .ok (.goto 8, 3) := by decide +kernel
theorem dX14_ofEntry_38 : decode cX14_ofEntry 38 = .ok (.aload_n 0, 1) := by decide +kernel
theorem dX14_ofEntry_39 : decode cX14_ofEntry 39 = .ok (.iconst 2, 1) := by decide +kernel
theorem dX14_ofEntry_40 : decode cX14_ofEntry 40 = .ok (.invokevirtual 43, 3) := by decide +kernel
theorem dX14_ofEntry_43 : decode cX14_ofEntry 43 = .ok (.ireturn, 1) := by decide +kernel
theorem dX14_from_0 : decode cX14_from 0 = .ok (.aload_n 0, 1) := by decide +kernel
theorem dX14_from_1 : decode cX14_from 1 = .ok (.iconst 0, 1) := by decide +kernel
theorem dX14_from_2 : decode cX14_from 2 = .ok (.putfield 16, 3) := by decide +kernel
theorem dX14_from_5 : decode cX14_from 5 = .ok (.aload_n 0, 1) := by decide +kernel
theorem dX14_from_6 : decode cX14_from 6 = .ok (.iload_n 1, 1) := by decide +kernel
theorem dX14_from_7 : decode cX14_from 7 = .ok (.invokevirtual 202, 3) := by decide +kernel
theorem dX14_from_10 : decode cX14_from 10 = .ok (.ifCond .eq 40, 3) := by decide +kernel
theorem dX14_from_13 : decode cX14_from 13 = .ok (.iload_n 2, 1) := by decide +kernel
theorem dX14_from_14 : decode cX14_from 14 = .ok (.iconst 0, 1) := by decide +kernel
theorem dX14_from_15 : decode cX14_from 15 = .ok (.bipush 13, 2) := by decide +kernel
theorem dX14_from_17 : decode cX14_from 17 = .ok (.invokestatic 30, 3) := by decide +kernel
theorem dX14_from_20 : decode cX14_from 20 = .ok (.ifCond .eq 30, 3) := by decide +kernel
theorem dX14_from_23 : decode cX14_from 23 = .ok (.aload_n 0, 1) := by decide +kernel
theorem dX14_from_24 : decode cX14_from 24 = .ok (.getfield 10, 3) := by decide +kernel
theorem dX14_from_27 : decode cX14_from 27 = .ok (.getfield 40, 3) := by decide +kernel
theorem dX14_from_30 : decode cX14_from 30 = .ok (.iload_n 1, 1) := by decide +kernel
theorem dX14_from_31 : decode cX14_from 31 = .ok (.invokevirtual 92, 3) := by decide +kernel
theorem dX14_from_34 : decode cX14_from 34 = .ok (.checkcast 77, 3) := by decide +kernel
theorem dX14_from_37 : decode cX14_from 37 = .ok (.getfield 82, 3) := by decide +kernel
theorem dX14_from_40 : decode cX14_from 40 = .ok (.getfield 99, 3) := by decide +kernel
theorem dX14_from_43 : decode cX14_from 43 = .ok (.iload_n 2, 1) := by decide +kernel
theorem dX14_from_44 : decode cX14_from 44 = .ok (.invokestatic 187, 3) := by decide +kernel
theorem dX14_from_47 : decode cX14_from 47 = .ok (.ifCond .ne 9, 3) := by decide +kernel
theorem dX14_from_50 : decode cX14_from 50 = .ok (.aload_n 0, 1) := by decide +kernel
theorem dX14_from_51 : decode cX14_from 51 = .ok (.iconst 1, 1) := by decide +kernel
theorem dX14_from_52 : decode cX14_from 52 = .ok (.invokevirtual 43, 3) := by decide +kernel
theorem dX14_from_55 : decode cX14_from 55 = .ok (.ireturn, 1) := by decide +kernel
theorem dX14_from_56 : decode cX14_from 56 = .ok (.aload_n 0, 1) := by decide +kernel
theorem dX14_from_57 : decode cX14_from 57 = .ok (.getfield 10, 3) := by decide +kernel
theorem dX14_from_60 : decode cX14_from 60 = .ok (.getfield 40, 3) := by decide +kernel
theorem dX14_from_63 : decode cX14_from 63 = .ok (.iload_n 1, 1) := by decide +kernel
theorem dX14_from_64 : decode cX14_from 64 = .ok (.invokevirtual 92, 3) := by decide +kernel
theorem dX14_from_67 : decode cX14_from 67 = .ok (.checkcast 77, 3) := by decide +kernel
theorem dX14_from_70 : decode cX14_from 70 = .ok (.getfield 191, 3) := by decide +kernel
theorem dX14_from_73 : decode cX14_from 73 = .ok (.getfield 212, 3) := by decide +kernel
theorem dX14_from_76 : decode cX14_from 76 = .ok (.iload_n 2, 1) := by decide +kernel
theorem dX14_from_77 : decode cX14_from 77 = .ok (.iaload, 1) := by decide +kernel
theorem dX14_from_78 : decode cX14_from 78 = .ok (.ireturn, 1) := by decide +kernel
theorem dX14_manyNow_0 : decode cX14_manyNow 0 = .ok (.iconst 0, 1) := by decide +kernel
theorem dX14_manyNow_1 : decode cX14_manyNow 1 = .ok (.istore_n 2, 1) := by decide +kernel
theorem dX14_manyNow_2 : decode cX14_manyNow 2 = .ok (.iload_n 1, 1) := by decide +kernel
theorem dX14_manyNow_3 : decode cX14_manyNow 3 = .ok (.tableswitch 121 0 9 #[53, 64, 75, 86, 121, 121, 121, 97, 105, 113], 53) := by decide +kernel
theorem dX14_manyNow_56 : decode cX14_manyNow 56 = .ok (.aload_n 0, 1) := by decide +kernel
theorem dX14_manyNow_57 : decode cX14_manyNow 57 = .ok (.getfield 10, 3) := by decide +kernel
theorem dX14_manyNow_60 : decode cX14_manyNow 60 = .ok (.getfield 20, 3) := by decide +kernel
theorem dX14_manyNow_63 : decode cX14_manyNow 63 = .ok (.invokevirtual 24, 3) := by decide +kernel
theorem dX14_manyNow_66 : decode cX14_manyNow 66 = .ok (.ireturn, 1) := by decide +kernel
theorem dX14_manyNow_67 : decode cX14_manyNow 67 = .ok (.aload_n 0, 1) := by decide +kernel
theorem dX14_manyNow_68 : decode cX14_manyNow 68 = .ok (.getfield 10, 3) := by decide +kernel
theorem dX14_manyNow_71 : decode cX14_manyNow 71 = .ok (.getfield 34, 3) := by decide +kernel
theorem dX14_manyNow_74 : decode cX14_manyNow 74 = .ok (.invokevirtual 24, 3) := by decide +kernel
theorem dX14_manyNow_77 : decode cX14_manyNow 77 = .ok (.ireturn, 1) := by decide +kernel
theorem dX14_manyNow_78 : decode cX14_manyNow 78 = .ok (.aload_n 0, 1) := by decide +kernel
theorem dX14_manyNow_79 : decode cX14_manyNow 79 = .ok (.getfield 10, 3) := by decide +kernel
theorem dX14_manyNow_82 : decode cX14_manyNow 82 = .ok (.getfield 37, 3) := by decide +kernel
theorem dX14_manyNow_85 : decode cX14_manyNow 85 = .ok (.invokevirtual 24, 3) := by decide +kernel
theorem dX14_manyNow_88 : decode cX14_manyNow 88 = .ok (.ireturn, 1) := by decide +kernel
theorem dX14_manyNow_89 : decode cX14_manyNow 89 = .ok (.aload_n 0, 1) := by decide +kernel
theorem dX14_manyNow_90 : decode cX14_manyNow 90 = .ok (.getfield 10, 3) := by decide +kernel
theorem dX14_manyNow_93 : decode cX14_manyNow 93 = .ok (.getfield 40, 3) := by decide +kernel
theorem dX14_manyNow_96 : decode cX14_manyNow 96 = .ok (.invokevirtual 24, 3) := by decide +kernel
theorem dX14_manyNow_99 : decode cX14_manyNow 99 = .ok (.ireturn, 1) := by decide +kernel
theorem dX14_manyNow_100 : decode cX14_manyNow 100 = .ok (.aload_n 0, 1) := by decide +kernel
theorem dX14_manyNow_101 : decode cX14_manyNow 101 = .ok (.getfield 10, 3) := by decide +kernel
theorem dX14_manyNow_104 : decode cX14_manyNow 104 = .ok (.getfield 239, 3) := by decide +kernel
theorem dX14_manyNow_107 : decode cX14_manyNow 107 = .ok (.ireturn, 1) := by decide +kernel
theorem dX14_manyNow_108 : decode cX14_manyNow 108 = .ok (.aload_n 0, 1) := by decide +kernel
theorem dX14_manyNow_109 : decode cX14_manyNow 109 = .ok (.getfield 10, 3) := by decide +kernel
theorem dX14_manyNow_112 : decode cX14_manyNow 112 = .ok (.invokevirtual 240, 3) := by decide +kernel
theorem dX14_manyNow_115 : decode cX14_manyNow 115 = .ok (.ireturn, 1) := by decide +kernel
theorem dX14_manyNow_116 : decode cX14_manyNow 116 = .ok (.aload_n 0, 1) := by decide +kernel
theorem dX14_manyNow_117 : decode cX14_manyNow 117 = .ok (.getfield 10, 3) := by decide +kernel
theorem dX14_manyNow_120 : decode cX14_manyNow 120 = .ok (.getfield 242, 3) := by decide +kernel
theorem dX14_manyNow_123 : decode cX14_manyNow 123 = .ok (.ireturn, 1) := by decide +kernel
theorem dX14_manyNow_124 : decode cX14_manyNow 124 = .ok (.aload_n 0, 1) := by decide +kernel
theorem dX14_manyNow_125 : decode cX14_manyNow 125 = .ok (.getfield 10, 3) := by decide +kernel
theorem dX14_manyNow_128 : decode cX14_manyNow 128 = .ok (.getfield 40, 3) := by decide +kernel
theorem dX14_manyNow_131 : decode cX14_manyNow 131 = .ok (.invokevirtual 63, 3) := by decide +kernel
theorem dX14_manyNow_134 : decode cX14_manyNow 134 = .ok (.astore_n 3, 1) := by decide +kernel
theorem dX14_manyNow_135 : decode cX14_manyNow 135 = .ok (.aload_n 3, 1) := by decide +kernel
theorem dX14_manyNow_136 : decode cX14_manyNow 136 = .ok (.invokeinterface 67 1, 5) := by decide +kernel
theorem dX14_manyNow_141 : decode cX14_manyNow 141 = .ok (.ifCond .eq 36, 3) := by decide +kernel
theorem dX14_manyNow_144 : decode cX14_manyNow 144 = .ok (.aload_n 3, 1) := by decide +kernel
theorem dX14_manyNow_145 : decode cX14_manyNow 145 = .ok (.invokeinterface 73 1, 5) := by decide +kernel
theorem dX14_manyNow_150 : decode cX14_manyNow 150 = .ok (.checkcast 77, 3) := by decide +kernel
theorem dX14_manyNow_153 : decode cX14_manyNow 153 = .ok (.astore 4, 2) := by decide +kernel
theorem dX14_manyNow_155 : decode cX14_manyNow 155 = .ok (.iload_n 2, 1) := by decide +kernel
theorem dX14_manyNow_156 : decode cX14_manyNow 156 = .ok (.aload 4, 2) := by decide +kernel
theorem dX14_manyNow_158 : decode cX14_manyNow 158 = .ok (.getfield 79, 3) := by decide +kernel
theorem dX14_manyNow_161 : decode cX14_manyNow 161 = .ok (.iload_n 1, 1) := by decide +kernel
theorem dX14_manyNow_162 : decode cX14_manyNow 162 = .ok (.iconst 4, 1) := by decide +kernel
theorem dX14_manyNow_163 : decode cX14_manyNow 163 = .ok (.isub, 1) := by decide +kernel
theorem dX14_manyNow_164 : decode cX14_manyNow 164 = .ok (.if_icmp .ne 7, 3) := by decide +kernel
theorem dX14_manyNow_167 : decode cX14_manyNow 167 = .ok (.iconst 1, 1) := by decide +kernel
theorem dX14_manyNow_168 : decode cX14_manyNow 168 = .ok (.goto 4, 3) := by decide +kernel
theorem dX14_manyNow_171 : decode cX14_manyNow 171 = .ok (.iconst 0, 1) := by decide +kernel
theorem dX14_manyNow_172 : decode cX14_manyNow 172 = .ok (.iadd, 1) := by decide +kernel
theorem dX14_manyNow_173 : decode cX14_manyNow 173 = .ok (.istore_n 2, 1) := by decide +kernel
theorem dX14_manyNow_174 : decode cX14_manyNow 174 = .ok (.goto (-39), 3) := by decide +kernel
theorem dX14_manyNow_177 : decode cX14_manyNow 177 = .ok (.iload_n 2, 1) := by decide +kernel
theorem dX14_manyNow_178 : decode cX14_manyNow 178 = .ok (.ireturn, 1) := by decide +kernel
theorem dX14_many_0 : decode cX14_many 0 = .ok (.aload_n 0, 1) := by decide +kernel
theorem dX14_many_1 : decode cX14_many 1 = .ok (.iconst 0, 1) := by decide +kernel
theorem dX14_many_2 : decode cX14_many 2 = .ok (.putfield 16, 3) := by decide +kernel
theorem dX14_many_5 : decode cX14_many 5 = .ok (.iload_n 1, 1) := by decide +kernel
theorem dX14_many_6 : decode cX14_many 6 = .ok (.iconst 0, 1) := by decide +kernel
theorem dX14_many_7 : decode cX14_many 7 = .ok (.bipush 9, 2) := by decide +kernel
theorem dX14_many_9 : decode cX14_many 9 = .ok (.invokestatic 30, 3) := by decide +kernel
theorem dX14_many_12 : decode cX14_many 12 = .ok (.ifCond .eq 11, 3) := by decide +kernel
theorem dX14_many_15 : decode cX14_many 15 = .ok (.aload_n 0, 1) := by decide +kernel
theorem dX14_many_16 : decode cX14_many 16 = .ok (.iload_n 1, 1) := by decide +kernel
theorem dX14_many_17 : decode cX14_many 17 = .ok (.invokevirtual 245, 3) := by decide +kernel
theorem dX14_many_20 : decode cX14_many 20 = .ok (.goto 8, 3) := by decide +kernel
theorem dX14_many_23 : decode cX14_many 23 = .ok (.aload_n 0, 1) := by decide +kernel
theorem dX14_many_24 : decode cX14_many 24 = .ok (.iconst 1, 1) := by decide +kernel
theorem dX14_many_25 : decode cX14_many 25 = .ok (.invokevirtual 43, 3) := by decide +kernel
theorem dX14_many_28 : decode cX14_many 28 = .ok (.ireturn, 1) := by decide +kernel
theorem dX14_hitShare_0 : decode cX14_hitShare 0 = .ok (.aload_n 0, 1) := by decide +kernel
theorem dX14_hitShare_1 : decode cX14_hitShare 1 = .ok (.iconst 0, 1) := by decide +kernel
theorem dX14_hitShare_2 : decode cX14_hitShare 2 = .ok (.putfield 16, 3) := by decide +kernel
theorem dX14_hitShare_5 : decode cX14_hitShare 5 = .ok (.aload_n 0, 1) := by decide +kernel
theorem dX14_hitShare_6 : decode cX14_hitShare 6 = .ok (.getfield 10, 3) := by decide +kernel
theorem dX14_hitShare_9 : decode cX14_hitShare 9 = .ok (.getfield 239, 3) := by decide +kernel
theorem dX14_hitShare_12 : decode cX14_hitShare 12 = .ok (.aload_n 0, 1) := by decide +kernel
theorem dX14_hitShare_13 : decode cX14_hitShare 13 = .ok (.getfield 10, 3) := by decide +kernel
theorem dX14_hitShare_16 : decode cX14_hitShare 16 = .ok (.getfield 40, 3) := by decide +kernel
theorem dX14_hitShare_19 : decode cX14_hitShare 19 = .ok (.invokevirtual 24, 3) := by decide +kernel
theorem dX14_hitShare_22 : decode cX14_hitShare 22 = .ok (.iadd, 1) := by decide +kernel
theorem dX14_hitShare_23 : decode cX14_hitShare 23 = .ok (.istore_n 1, 1) := by decide +kernel
theorem dX14_hitShare_24 : decode cX14_hitShare 24 = .ok (.iload_n 1, 1) := by decide +kernel
theorem dX14_hitShare_25 : decode cX14_hitShare 25 = .ok (.ifCond .ne 7, 3) := by decide +kernel
theorem dX14_hitShare_28 : decode cX14_hitShare 28 = .ok (.dconst 0, 1) := by decide +kernel
theorem dX14_hitShare_29 : decode cX14_hitShare 29 = .ok (.goto 14, 3) := by decide +kernel
theorem dX14_hitShare_32 : decode cX14_hitShare 32 = .ok (.aload_n 0, 1) := by decide +kernel
theorem dX14_hitShare_33 : decode cX14_hitShare 33 = .ok (.getfield 10, 3) := by decide +kernel
theorem dX14_hitShare_36 : decode cX14_hitShare 36 = .ok (.getfield 239, 3) := by decide +kernel
theorem dX14_hitShare_39 : decode cX14_hitShare 39 = .ok (.i2d, 1) := by decide +kernel
theorem dX14_hitShare_40 : decode cX14_hitShare 40 = .ok (.iload_n 1, 1) := by decide +kernel
theorem dX14_hitShare_41 : decode cX14_hitShare 41 = .ok (.i2d, 1) := by decide +kernel
theorem dX14_hitShare_42 : decode cX14_hitShare 42 = .ok (.ddiv, 1) := by decide +kernel
theorem dX14_hitShare_43 : decode cX14_hitShare 43 = .ok (.dreturn, 1) := by decide +kernel
theorem dX14_wouldRunNow_0 : decode cX14_wouldRunNow 0 = .ok (.aload_n 0, 1) := by decide +kernel
theorem dX14_wouldRunNow_1 : decode cX14_wouldRunNow 1 = .ok (.getfield 10, 3) := by decide +kernel
theorem dX14_wouldRunNow_4 : decode cX14_wouldRunNow 4 = .ok (.invokevirtual 177, 3) := by decide +kernel
theorem dX14_wouldRunNow_7 : decode cX14_wouldRunNow 7 = .ok (.astore_n 3, 1) := by decide +kernel
theorem dX14_wouldRunNow_8 : decode cX14_wouldRunNow 8 = .ok (.aload_n 3, 1) := by decide +kernel
theorem dX14_wouldRunNow_9 : decode cX14_wouldRunNow 9 = .ok (.iload_n 1, 1) := by decide +kernel
theorem dX14_wouldRunNow_10 : decode cX14_wouldRunNow 10 = .ok (.iload_n 2, 1) := by decide +kernel
theorem dX14_wouldRunNow_11 : decode cX14_wouldRunNow 11 = .ok (.invokevirtual 181, 3) := by decide +kernel
theorem dX14_wouldRunNow_14 : decode cX14_wouldRunNow 14 = .ok (.iconst (-1), 1) := by decide +kernel
theorem dX14_wouldRunNow_15 : decode cX14_wouldRunNow 15 = .ok (.if_icmp .ne 7, 3) := by decide +kernel
theorem dX14_wouldRunNow_18 : decode cX14_wouldRunNow 18 = .ok (.iconst (-1), 1) := by decide +kernel
theorem dX14_wouldRunNow_19 : decode cX14_wouldRunNow 19 = .ok (.goto 15, 3) := by decide +kernel
theorem dX14_wouldRunNow_22 : decode cX14_wouldRunNow 22 = .ok (.aload_n 3, 1) := by decide +kernel
theorem dX14_wouldRunNow_23 : decode cX14_wouldRunNow 23 = .ok (.invokevirtual 240, 3) := by decide +kernel
theorem dX14_wouldRunNow_26 : decode cX14_wouldRunNow 26 = .ok (.aload_n 0, 1) := by decide +kernel
theorem dX14_wouldRunNow_27 : decode cX14_wouldRunNow 27 = .ok (.getfield 10, 3) := by decide +kernel
theorem dX14_wouldRunNow_30 : decode cX14_wouldRunNow 30 = .ok (.invokevirtual 240, 3) := by decide +kernel
theorem dX14_wouldRunNow_33 : decode cX14_wouldRunNow 33 = .ok (.isub, 1) := by decide +kernel
theorem dX14_wouldRunNow_34 : decode cX14_wouldRunNow 34 = .ok (.ireturn, 1) := by decide +kernel
theorem dX14_wouldRun_0 : decode cX14_wouldRun 0 = .ok (.aload_n 0, 1) := by decide +kernel
theorem dX14_wouldRun_1 : decode cX14_wouldRun 1 = .ok (.iconst 0, 1) := by decide +kernel
theorem dX14_wouldRun_2 : decode cX14_wouldRun 2 = .ok (.putfield 16, 3) := by decide +kernel
theorem dX14_wouldRun_5 : decode cX14_wouldRun 5 = .ok (.aload_n 0, 1) := by decide +kernel
theorem dX14_wouldRun_6 : decode cX14_wouldRun 6 = .ok (.iload_n 1, 1) := by decide +kernel
theorem dX14_wouldRun_7 : decode cX14_wouldRun 7 = .ok (.invokevirtual 159, 3) := by decide +kernel
theorem dX14_wouldRun_10 : decode cX14_wouldRun 10 = .ok (.ifCond .eq 20, 3) := by decide +kernel
theorem dX14_wouldRun_13 : decode cX14_wouldRun 13 = .ok (.aload_n 0, 1) := by decide +kernel
theorem dX14_wouldRun_14 : decode cX14_wouldRun 14 = .ok (.iload_n 2, 1) := by decide +kernel
theorem dX14_wouldRun_15 : decode cX14_wouldRun 15 = .ok (.invokevirtual 119, 3) := by decide +kernel
theorem dX14_wouldRun_18 : decode cX14_wouldRun 18 = .ok (.ifCond .eq 12, 3) := by decide +kernel
theorem dX14_wouldRun_21 : decode cX14_wouldRun 21 = .ok (.aload_n 0, 1) := by decide +kernel
theorem dX14_wouldRun_22 : decode cX14_wouldRun 22 = .ok (.iload_n 1, 1) := by decide +kernel
theorem dX14_wouldRun_23 : decode cX14_wouldRun 23 = .ok (.iload_n 2, 1) := by decide +kernel
theorem dX14_wouldRun_24 : decode cX14_wouldRun 24 = .ok (.invokevirtual 248, 3) := by decide +kernel
theorem dX14_wouldRun_27 : decode cX14_wouldRun 27 = .ok (.goto 8, 3) := by decide +kernel
theorem dX14_wouldRun_30 : decode cX14_wouldRun 30 = .ok (.aload_n 0, 1) := by decide +kernel
theorem dX14_wouldRun_31 : decode cX14_wouldRun 31 = .ok (.iconst 1, 1) := by decide +kernel
theorem dX14_wouldRun_32 : decode cX14_wouldRun 32 = .ok (.invokevirtual 43, 3) := by decide +kernel
theorem dX14_wouldRun_35 : decode cX14_wouldRun 35 = .ok (.ireturn, 1) := by decide +kernel
theorem dX14_wouldBeWrong_0 : decode cX14_wouldBeWrong 0 = .ok (.aload_n 0, 1) := by decide +kernel
theorem dX14_wouldBeWrong_1 : decode cX14_wouldBeWrong 1 = .ok (.aload_n 0, 1) := by decide +kernel
theorem dX14_wouldBeWrong_2 : decode cX14_wouldBeWrong 2 = .ok (.iload_n 1, 1) := by decide +kernel
theorem dX14_wouldBeWrong_3 : decode cX14_wouldBeWrong 3 = .ok (.invokevirtual 159, 3) := by decide +kernel
theorem dX14_wouldBeWrong_6 : decode cX14_wouldBeWrong 6 = .ok (.ifCond .eq 15, 3) := by decide +kernel
theorem dX14_wouldBeWrong_9 : decode cX14_wouldBeWrong 9 = .ok (.aload_n 0, 1) := by decide +kernel
theorem dX14_wouldBeWrong_10 : decode cX14_wouldBeWrong 10 = .ok (.iload_n 2, 1) := by decide +kernel
theorem dX14_wouldBeWrong_11 : decode cX14_wouldBeWrong 11 = .ok (.invokevirtual 119, 3) := by decide +kernel
theorem dX14_wouldBeWrong_14 : decode cX14_wouldBeWrong 14 = .ok (.ifCond .eq 7, 3) := by decide +kernel
theorem dX14_wouldBeWrong_17 : decode cX14_wouldBeWrong 17 = .ok (.iconst 0, 1) := by decide +kernel
theorem dX14_wouldBeWrong_18 : decode cX14_wouldBeWrong 18 = .ok (.goto 4, 3) := by decide +kernel
theorem dX14_wouldBeWrong_21 : decode cX14_wouldBeWrong 21 = .ok (.iconst 1, 1) := by decide +kernel
theorem dX14_wouldBeWrong_22 : decode cX14_wouldBeWrong 22 = .ok (.putfield 16, 3) := by decide +kernel
theorem dX14_wouldBeWrong_25 : decode cX14_wouldBeWrong 25 = .ok (.aload_n 0, 1) := by decide +kernel
theorem dX14_wouldBeWrong_26 : decode cX14_wouldBeWrong 26 = .ok (.getfield 16, 3) := by decide +kernel
theorem dX14_wouldBeWrong_29 : decode cX14_wouldBeWrong 29 = .ok (.ifCond .le 5, 3) := by decide +kernel
theorem dX14_wouldBeWrong_32 : decode cX14_wouldBeWrong 32 = .ok (.iconst 0, 1) := by decide +kernel
theorem dX14_wouldBeWrong_33 : decode cX14_wouldBeWrong 33 = .ok (.ireturn, 1) := by decide +kernel
theorem dX14_wouldBeWrong_34 : decode cX14_wouldBeWrong 34 = .ok (.aload_n 0, 1) := by decide +kernel
theorem dX14_wouldBeWrong_35 : decode cX14_wouldBeWrong 35 = .ok (.getfield 10, 3) := by decide +kernel
theorem dX14_wouldBeWrong_38 : decode cX14_wouldBeWrong 38 = .ok (.invokevirtual 177, 3) := by decide +kernel
theorem dX14_wouldBeWrong_41 : decode cX14_wouldBeWrong 41 = .ok (.iload_n 1, 1) := by decide +kernel
theorem dX14_wouldBeWrong_42 : decode cX14_wouldBeWrong 42 = .ok (.iload_n 2, 1) := by decide +kernel
theorem dX14_wouldBeWrong_43 : decode cX14_wouldBeWrong 43 = .ok (.invokevirtual 181, 3) := by decide +kernel
theorem dX14_wouldBeWrong_46 : decode cX14_wouldBeWrong 46 = .ok (.istore_n 3, 1) := by decide +kernel
theorem dX14_wouldBeWrong_47 : decode cX14_wouldBeWrong 47 = .ok (.iload_n 3, 1) := by decide +kernel
theorem dX14_wouldBeWrong_48 : decode cX14_wouldBeWrong 48 = .ok (.iconst (-1), 1) := by decide +kernel
theorem dX14_wouldBeWrong_49 : decode cX14_wouldBeWrong 49 = .ok (.if_icmp .eq 19, 3) := by decide +kernel
theorem dX14_wouldBeWrong_52 : decode cX14_wouldBeWrong 52 = .ok (.iload_n 3, 1) := by decide +kernel
theorem dX14_wouldBeWrong_53 : decode cX14_wouldBeWrong 53 = .ok (.aload_n 0, 1) := by decide +kernel
theorem dX14_wouldBeWrong_54 : decode cX14_wouldBeWrong 54 = .ok (.getfield 10, 3) := by decide +kernel
theorem dX14_wouldBeWrong_57 : decode cX14_wouldBeWrong 57 = .ok (.iload_n 2, 1) := by decide +kernel
theorem dX14_wouldBeWrong_58 : decode cX14_wouldBeWrong 58 = .ok (.invokevirtual 112, 3) := by decide +kernel
theorem dX14_wouldBeWrong_61 : decode cX14_wouldBeWrong 61 = .ok (.if_icmp .eq 7, 3) := by decide +kernel
theorem dX14_wouldBeWrong_64 : decode cX14_wouldBeWrong 64 = .ok (.iconst 1, 1) := by decide +kernel
theorem dX14_wouldBeWrong_65 : decode cX14_wouldBeWrong 65 = .ok (.goto 4, 3) := by decide +kernel
theorem dX14_wouldBeWrong_68 : decode cX14_wouldBeWrong 68 = .ok (.iconst 0, 1) := by decide +kernel
theorem dX14_wouldBeWrong_69 : decode cX14_wouldBeWrong 69 = .ok (.ireturn, 1) := by decide +kernel
theorem dX14_touchedNow_0 : decode cX14_touchedNow 0 = .ok (.iconst 0, 1) := by decide +kernel
theorem dX14_touchedNow_1 : decode cX14_touchedNow 1 = .ok (.istore_n 2, 1) := by decide +kernel
theorem dX14_touchedNow_2 : decode cX14_touchedNow 2 = .ok (.aload_n 0, 1) := by decide +kernel
theorem dX14_touchedNow_3 : decode cX14_touchedNow 3 = .ok (.getfield 10, 3) := by decide +kernel
theorem dX14_touchedNow_6 : decode cX14_touchedNow 6 = .ok (.getfield 20, 3) := by decide +kernel
theorem dX14_touchedNow_9 : decode cX14_touchedNow 9 = .ok (.invokevirtual 63, 3) := by decide +kernel
theorem dX14_touchedNow_12 : decode cX14_touchedNow 12 = .ok (.astore_n 3, 1) := by decide +kernel
theorem dX14_touchedNow_13 : decode cX14_touchedNow 13 = .ok (.aload_n 3, 1) := by decide +kernel
theorem dX14_touchedNow_14 : decode cX14_touchedNow 14 = .ok (.invokeinterface 67 1, 5) := by decide +kernel
theorem dX14_touchedNow_19 : decode cX14_touchedNow 19 = .ok (.ifCond .eq 53, 3) := by decide +kernel
theorem dX14_touchedNow_22 : decode cX14_touchedNow 22 = .ok (.aload_n 3, 1) := by decide +kernel
theorem dX14_touchedNow_23 : decode cX14_touchedNow 23 = .ok (.invokeinterface 73 1, 5) := by decide +kernel
theorem dX14_touchedNow_28 : decode cX14_touchedNow 28 = .ok (.checkcast 47, 3) := by decide +kernel
theorem dX14_touchedNow_31 : decode cX14_touchedNow 31 = .ok (.astore 4, 2) := by decide +kernel
theorem dX14_touchedNow_33 : decode cX14_touchedNow 33 = .ok (.iload_n 2, 1) := by decide +kernel
theorem dX14_touchedNow_34 : decode cX14_touchedNow 34 = .ok (.aload 4, 2) := by decide +kernel
theorem dX14_touchedNow_36 : decode cX14_touchedNow 36 = .ok (.getfield 96, 3) := by decide +kernel
theorem dX14_touchedNow_39 : decode cX14_touchedNow 39 = .ok (.iload_n 1, 1) := by decide +kernel
theorem dX14_touchedNow_40 : decode cX14_touchedNow 40 = .ok (.invokestatic 187, 3) := by decide +kernel
theorem dX14_touchedNow_43 : decode cX14_touchedNow 43 = .ok (.ifCond .ne 13, 3) := by decide +kernel
theorem dX14_touchedNow_46 : decode cX14_touchedNow 46 = .ok (.aload 4, 2) := by decide +kernel
theorem dX14_touchedNow_48 : decode cX14_touchedNow 48 = .ok (.getfield 99, 3) := by decide +kernel
theorem dX14_touchedNow_51 : decode cX14_touchedNow 51 = .ok (.iload_n 2, 1) := by decide +kernel
theorem dX14_touchedNow_52 : decode cX14_touchedNow 52 = .ok (.iand, 1) := by decide +kernel
theorem dX14_touchedNow_53 : decode cX14_touchedNow 53 = .ok (.ifCond .eq 13, 3) := by decide +kernel
theorem dX14_touchedNow_56 : decode cX14_touchedNow 56 = .ok (.iconst 1, 1) := by decide +kernel
theorem dX14_touchedNow_57 : decode cX14_touchedNow 57 = .ok (.aload 4, 2) := by decide +kernel
theorem dX14_touchedNow_59 : decode cX14_touchedNow 59 = .ok (.getfield 86, 3) := by decide +kernel
theorem dX14_touchedNow_62 : decode cX14_touchedNow 62 = .ok (.ishl, 1) := by decide +kernel
theorem dX14_touchedNow_63 : decode cX14_touchedNow 63 = .ok (.goto 4, 3) := by decide +kernel
theorem dX14_touchedNow_66 : decode cX14_touchedNow 66 = .ok (.iconst 0, 1) := by decide +kernel
theorem dX14_touchedNow_67 : decode cX14_touchedNow 67 = .ok (.ior, 1) := by decide +kernel
theorem dX14_touchedNow_68 : decode cX14_touchedNow 68 = .ok (.istore_n 2, 1) := by decide +kernel
theorem dX14_touchedNow_69 : decode cX14_touchedNow 69 = .ok (.goto (-56), 3) := by decide +kernel
theorem dX14_touchedNow_72 : decode cX14_touchedNow 72 = .ok (.iconst 0, 1) := by decide +kernel
theorem dX14_touchedNow_73 : decode cX14_touchedNow 73 = .ok (.istore_n 3, 1) := by decide +kernel
theorem dX14_touchedNow_74 : decode cX14_touchedNow 74 = .ok (.aload_n 0, 1) := by decide +kernel
theorem dX14_touchedNow_75 : decode cX14_touchedNow 75 = .ok (.getfield 10, 3) := by decide +kernel
theorem dX14_touchedNow_78 : decode cX14_touchedNow 78 = .ok (.getfield 40, 3) := by decide +kernel
theorem dX14_touchedNow_81 : decode cX14_touchedNow 81 = .ok (.invokevirtual 63, 3) := by decide +kernel
theorem dX14_touchedNow_84 : decode cX14_touchedNow 84 = .ok (.astore 4, 2) := by decide +kernel
theorem dX14_touchedNow_86 : decode cX14_touchedNow 86 = .ok (.aload 4, 2) := by decide +kernel
theorem dX14_touchedNow_88 : decode cX14_touchedNow 88 = .ok (.invokeinterface 67 1, 5) := by decide +kernel
theorem dX14_touchedNow_93 : decode cX14_touchedNow 93 = .ok (.ifCond .eq 49, 3) := by decide +kernel
theorem dX14_touchedNow_96 : decode cX14_touchedNow 96 = .ok (.aload 4, 2) := by decide +kernel
theorem dX14_touchedNow_98 : decode cX14_touchedNow 98 = .ok (.invokeinterface 73 1, 5) := by decide +kernel
theorem dX14_touchedNow_103 : decode cX14_touchedNow 103 = .ok (.checkcast 77, 3) := by decide +kernel
theorem dX14_touchedNow_106 : decode cX14_touchedNow 106 = .ok (.astore 5, 2) := by decide +kernel
theorem dX14_touchedNow_108 : decode cX14_touchedNow 108 = .ok (.iload_n 3, 1) := by decide +kernel
theorem dX14_touchedNow_109 : decode cX14_touchedNow 109 = .ok (.aload 5, 2) := by decide +kernel
theorem dX14_touchedNow_111 : decode cX14_touchedNow 111 = .ok (.getfield 79, 3) := by decide +kernel
theorem dX14_touchedNow_114 : decode cX14_touchedNow 114 = .ok (.ifCond .ne 22, 3) := by decide +kernel
theorem dX14_touchedNow_117 : decode cX14_touchedNow 117 = .ok (.iload_n 2, 1) := by decide +kernel
theorem dX14_touchedNow_118 : decode cX14_touchedNow 118 = .ok (.aload 5, 2) := by decide +kernel
theorem dX14_touchedNow_120 : decode cX14_touchedNow 120 = .ok (.getfield 82, 3) := by decide +kernel
theorem dX14_touchedNow_123 : decode cX14_touchedNow 123 = .ok (.getfield 86, 3) := by decide +kernel
theorem dX14_touchedNow_126 : decode cX14_touchedNow 126 = .ok (.invokestatic 187, 3) := by decide +kernel
theorem dX14_touchedNow_129 : decode cX14_touchedNow 129 = .ok (.ifCond .eq 7, 3) := by decide +kernel
theorem dX14_touchedNow_132 : decode cX14_touchedNow 132 = .ok (.iconst 1, 1) := by decide +kernel
theorem dX14_touchedNow_133 : decode cX14_touchedNow 133 = .ok (.goto 4, 3) := by decide +kernel
theorem dX14_touchedNow_136 : decode cX14_touchedNow 136 = .ok (.iconst 0, 1) := by decide +kernel
theorem dX14_touchedNow_137 : decode cX14_touchedNow 137 = .ok (.iadd, 1) := by decide +kernel
theorem dX14_touchedNow_138 : decode cX14_touchedNow 138 = .ok (.istore_n 3, 1) := by decide +kernel
theorem dX14_touchedNow_139 : decode cX14_touchedNow 139 = .ok (.goto (-53), 3) := by decide +kernel
theorem dX14_touchedNow_142 : decode cX14_touchedNow 142 = .ok (.iload_n 3, 1) := by decide +kernel
theorem dX14_touchedNow_143 : decode cX14_touchedNow 143 = .ok (.ireturn, 1) := by decide +kernel
theorem dX14_touched_0 : decode cX14_touched 0 = .ok (.aload_n 0, 1) := by decide +kernel
theorem dX14_touched_1 : decode cX14_touched 1 = .ok (.iconst 0, 1) := by decide +kernel
theorem dX14_touched_2 : decode cX14_touched 2 = .ok (.putfield 16, 3) := by decide +kernel
theorem dX14_touched_5 : decode cX14_touched 5 = .ok (.iload_n 1, 1) := by decide +kernel
theorem dX14_touched_6 : decode cX14_touched 6 = .ok (.iconst 0, 1) := by decide +kernel
theorem dX14_touched_7 : decode cX14_touched 7 = .ok (.bipush 7, 2) := by decide +kernel
theorem dX14_touched_9 : decode cX14_touched 9 = .ok (.invokestatic 30, 3) := by decide +kernel
theorem dX14_touched_12 : decode cX14_touched 12 = .ok (.ifCond .eq 11, 3) := by decide +kernel
theorem dX14_touched_15 : decode cX14_touched 15 = .ok (.aload_n 0, 1) := by decide +kernel
theorem dX14_touched_16 : decode cX14_touched 16 = .ok (.iload_n 1, 1) := by decide +kernel
theorem dX14_touched_17 : decode cX14_touched 17 = .ok (.invokevirtual 251, 3) := by decide +kernel
theorem dX14_touched_20 : decode cX14_touched 20 = .ok (.goto 8, 3) := by decide +kernel
theorem dX14_touched_23 : decode cX14_touched 23 = .ok (.aload_n 0, 1) := by decide +kernel
theorem dX14_touched_24 : decode cX14_touched 24 = .ok (.iconst 1, 1) := by decide +kernel
theorem dX14_touched_25 : decode cX14_touched 25 = .ok (.invokevirtual 43, 3) := by decide +kernel
theorem dX14_touched_28 : decode cX14_touched 28 = .ok (.ireturn, 1) := by decide +kernel
theorem dX14_wouldGo_0 : decode cX14_wouldGo 0 = .ok (.aload_n 0, 1) := by decide +kernel
theorem dX14_wouldGo_1 : decode cX14_wouldGo 1 = .ok (.iconst 0, 1) := by decide +kernel
theorem dX14_wouldGo_2 : decode cX14_wouldGo 2 = .ok (.putfield 16, 3) := by decide +kernel
theorem dX14_wouldGo_5 : decode cX14_wouldGo 5 = .ok (.aload_n 0, 1) := by decide +kernel
theorem dX14_wouldGo_6 : decode cX14_wouldGo 6 = .ok (.iload_n 1, 1) := by decide +kernel
theorem dX14_wouldGo_7 : decode cX14_wouldGo 7 = .ok (.invokevirtual 159, 3) := by decide +kernel
theorem dX14_wouldGo_10 : decode cX14_wouldGo 10 = .ok (.ifCond .ne 9, 3) := by decide +kernel
theorem dX14_wouldGo_13 : decode cX14_wouldGo 13 = .ok (.aload_n 0, 1) := by decide +kernel
theorem dX14_wouldGo_14 : decode cX14_wouldGo 14 = .ok (.iconst 1, 1) := by decide +kernel
theorem dX14_wouldGo_15 : decode cX14_wouldGo 15 = .ok (.invokevirtual 43, 3) := by decide +kernel
theorem dX14_wouldGo_18 : decode cX14_wouldGo 18 = .ok (.ireturn, 1) := by decide +kernel
theorem dX14_wouldGo_19 : decode cX14_wouldGo 19 = .ok (.iload_n 2, 1) := by decide +kernel
theorem dX14_wouldGo_20 : decode cX14_wouldGo 20 = .ok (.iconst 1, 1) := by decide +kernel
theorem dX14_wouldGo_21 : decode cX14_wouldGo 21 = .ok (.bipush 20, 2) := by decide +kernel
theorem dX14_wouldGo_23 : decode cX14_wouldGo 23 = .ok (.invokestatic 30, 3) := by decide +kernel
theorem dX14_wouldGo_26 : decode cX14_wouldGo 26 = .ok (.ifCond .ne 9, 3) := by decide +kernel
theorem dX14_wouldGo_29 : decode cX14_wouldGo 29 = .ok (.aload_n 0, 1) := by decide +kernel
theorem dX14_wouldGo_30 : decode cX14_wouldGo 30 = .ok (.iconst 2, 1) := by decide +kernel
theorem dX14_wouldGo_31 : decode cX14_wouldGo 31 = .ok (.invokevirtual 43, 3) := by decide +kernel
theorem dX14_wouldGo_34 : decode cX14_wouldGo 34 = .ok (.ireturn, 1) := by decide +kernel
theorem dX14_wouldGo_35 : decode cX14_wouldGo 35 = .ok (.aload_n 0, 1) := by decide +kernel
theorem dX14_wouldGo_36 : decode cX14_wouldGo 36 = .ok (.getfield 10, 3) := by decide +kernel
theorem dX14_wouldGo_39 : decode cX14_wouldGo 39 = .ok (.getfield 37, 3) := by decide +kernel
theorem dX14_wouldGo_42 : decode cX14_wouldGo 42 = .ok (.iload_n 1, 1) := by decide +kernel
theorem dX14_wouldGo_43 : decode cX14_wouldGo 43 = .ok (.invokevirtual 92, 3) := by decide +kernel
theorem dX14_wouldGo_46 : decode cX14_wouldGo 46 = .ok (.checkcast 153, 3) := by decide +kernel
theorem dX14_wouldGo_49 : decode cX14_wouldGo 49 = .ok (.getfield 156, 3) := by decide +kernel
theorem dX14_wouldGo_52 : decode cX14_wouldGo 52 = .ok (.istore_n 3, 1) := by decide +kernel
theorem dX14_wouldGo_53 : decode cX14_wouldGo 53 = .ok (.iload_n 2, 1) := by decide +kernel
theorem dX14_wouldGo_54 : decode cX14_wouldGo 54 = .ok (.iload_n 3, 1) := by decide +kernel
theorem dX14_wouldGo_55 : decode cX14_wouldGo 55 = .ok (.if_icmp .le 7, 3) := by decide +kernel
theorem dX14_wouldGo_58 : decode cX14_wouldGo 58 = .ok (.iconst 0, 1) := by decide +kernel
theorem dX14_wouldGo_59 : decode cX14_wouldGo 59 = .ok (.goto 17, 3) := by decide +kernel
theorem dX14_wouldGo_62 : decode cX14_wouldGo 62 = .ok (.aload_n 0, 1) := by decide +kernel
theorem dX14_wouldGo_63 : decode cX14_wouldGo 63 = .ok (.getfield 10, 3) := by decide +kernel
theorem dX14_wouldGo_66 : decode cX14_wouldGo 66 = .ok (.invokevirtual 177, 3) := by decide +kernel
theorem dX14_wouldGo_69 : decode cX14_wouldGo 69 = .ok (.iload_n 1, 1) := by decide +kernel
theorem dX14_wouldGo_70 : decode cX14_wouldGo 70 = .ok (.iload_n 3, 1) := by decide +kernel
theorem dX14_wouldGo_71 : decode cX14_wouldGo 71 = .ok (.iload_n 2, 1) := by decide +kernel
theorem dX14_wouldGo_72 : decode cX14_wouldGo 72 = .ok (.isub, 1) := by decide +kernel
theorem dX14_wouldGo_73 : decode cX14_wouldGo 73 = .ok (.invokevirtual 162, 3) := by decide +kernel
theorem dX14_wouldGo_76 : decode cX14_wouldGo 76 = .ok (.ireturn, 1) := by decide +kernel
theorem dX14_add_0 : decode cX14_add 0 = .ok (.aload_n 0, 1) := by decide +kernel
theorem dX14_add_1 : decode cX14_add 1 = .ok (.aload_n 0, 1) := by decide +kernel
theorem dX14_add_2 : decode cX14_add 2 = .ok (.getfield 254, 3) := by decide +kernel
theorem dX14_add_5 : decode cX14_add 5 = .ok (.ldc2_w 258, 3) := by decide +kernel
theorem dX14_add_8 : decode cX14_add 8 = .ok (.lmul, 1) := by decide +kernel
theorem dX14_add_9 : decode cX14_add 9 = .ok (.iload_n 1, 1) := by decide +kernel
theorem dX14_add_10 : decode cX14_add 10 = .ok (.i2l, 1) := by decide +kernel
theorem dX14_add_11 : decode cX14_add 11 = .ok (.ladd, 1) := by decide +kernel
theorem dX14_add_12 : decode cX14_add 12 = .ok (.putfield 254, 3) := by decide +kernel
theorem dX14_add_15 : decode cX14_add 15 = .ok (.return_, 1) := by decide +kernel
theorem dX14_digest_0 : decode cX14_digest 0 = .ok (.aload_n 0, 1) := by decide +kernel
theorem dX14_digest_1 : decode cX14_digest 1 = .ok (.iconst 0, 1) := by decide +kernel
theorem dX14_digest_2 : decode cX14_digest 2 = .ok (.putfield 16, 3) := by decide +kernel
theorem dX14_digest_5 : decode cX14_digest 5 = .ok (.aload_n 0, 1) := by decide +kernel
theorem dX14_digest_6 : decode cX14_digest 6 = .ok (.ldc2_w 260, 3) := by decide +kernel
theorem dX14_digest_9 : decode cX14_digest 9 = .ok (.putfield 254, 3) := by decide +kernel
theorem dX14_digest_12 : decode cX14_digest 12 = .ok (.iconst 0, 1) := by decide +kernel
theorem dX14_digest_13 : decode cX14_digest 13 = .ok (.istore_n 1, 1) := by decide +kernel
theorem dX14_digest_14 : decode cX14_digest 14 = .ok (.iload_n 1, 1) := by decide +kernel
theorem dX14_digest_15 : decode cX14_digest 15 = .ok (.bipush 10, 2) := by decide +kernel
theorem dX14_digest_17 : decode cX14_digest 17 = .ok (.if_icmp .ge 18, 3) := by decide +kernel
theorem dX14_digest_20 : decode cX14_digest 20 = .ok (.aload_n 0, 1) := by decide +kernel
theorem dX14_digest_21 : decode cX14_digest 21 = .ok (.aload_n 0, 1) := by decide +kernel
theorem dX14_digest_22 : decode cX14_digest 22 = .ok (.iload_n 1, 1) := by decide +kernel
theorem dX14_digest_23 : decode cX14_digest 23 = .ok (.invokevirtual 245, 3) := by decide +kernel
theorem dX14_digest_26 : decode cX14_digest 26 = .ok (.invokevirtual 262, 3) := by decide +kernel
theorem dX14_digest_29 : decode cX14_digest 29 = .ok (.iinc 1 1, 3) := by decide +kernel
theorem dX14_digest_32 : decode cX14_digest 32 = .ok (.goto (-18), 3) := by decide +kernel
theorem dX14_digest_35 : decode cX14_digest 35 = .ok (.iconst 0, 1) := by decide +kernel
theorem dX14_digest_36 : decode cX14_digest 36 = .ok (.istore_n 1, 1) := by decide +kernel
theorem dX14_digest_37 : decode cX14_digest 37 = .ok (.iload_n 1, 1) := by decide +kernel
theorem dX14_digest_38 : decode cX14_digest 38 = .ok (.aload_n 0, 1) := by decide +kernel
theorem dX14_digest_39 : decode cX14_digest 39 = .ok (.getfield 10, 3) := by decide +kernel
theorem dX14_digest_42 : decode cX14_digest 42 = .ok (.getfield 20, 3) := by decide +kernel
theorem dX14_digest_45 : decode cX14_digest 45 = .ok (.invokevirtual 24, 3) := by decide +kernel
theorem dX14_digest_48 : decode cX14_digest 48 = .ok (.if_icmp .ge 33, 3) := by decide +kernel
theorem dX14_digest_51 : decode cX14_digest 51 = .ok (.iconst 0, 1) := by decide +kernel
theorem dX14_digest_52 : decode cX14_digest 52 = .ok (.istore_n 2, 1) := by decide +kernel
theorem dX14_digest_53 : decode cX14_digest 53 = .ok (.iload_n 2, 1) := by decide +kernel
theorem dX14_digest_54 : decode cX14_digest 54 = .ok (.bipush 8, 2) := by decide +kernel
theorem dX14_digest_56 : decode cX14_digest 56 = .ok (.if_icmp .ge 19, 3) := by decide +kernel
theorem dX14_digest_59 : decode cX14_digest 59 = .ok (.aload_n 0, 1) := by decide +kernel
theorem dX14_digest_60 : decode cX14_digest 60 = .ok (.aload_n 0, 1) := by decide +kernel
theorem dX14_digest_61 : decode cX14_digest 61 = .ok (.iload_n 1, 1) := by decide +kernel
theorem dX14_digest_62 : decode cX14_digest 62 = .ok (.iload_n 2, 1) := by decide +kernel
theorem dX14_digest_63 : decode cX14_digest 63 = .ok (.invokevirtual 123, 3) := by decide +kernel
theorem dX14_digest_66 : decode cX14_digest 66 = .ok (.invokevirtual 262, 3) := by decide +kernel
theorem dX14_digest_69 : decode cX14_digest 69 = .ok (.iinc 2 1, 3) := by decide +kernel
theorem dX14_digest_72 : decode cX14_digest 72 = .ok (.goto (-19), 3) := by decide +kernel
theorem dX14_digest_75 : decode cX14_digest 75 = .ok (.iinc 1 1, 3) := by decide +kernel
theorem dX14_digest_78 : decode cX14_digest 78 = .ok (.goto (-41), 3) := by decide +kernel
theorem dX14_digest_81 : decode cX14_digest 81 = .ok (.iconst 0, 1) := by decide +kernel
theorem dX14_digest_82 : decode cX14_digest 82 = .ok (.istore_n 1, 1) := by decide +kernel
theorem dX14_digest_83 : decode cX14_digest 83 = .ok (.iload_n 1, 1) := by decide +kernel
theorem dX14_digest_84 : decode cX14_digest 84 = .ok (.aload_n 0, 1) := by decide +kernel
theorem dX14_digest_85 : decode cX14_digest 85 = .ok (.getfield 10, 3) := by decide +kernel
theorem dX14_digest_88 : decode cX14_digest 88 = .ok (.getfield 34, 3) := by decide +kernel
theorem dX14_digest_91 : decode cX14_digest 91 = .ok (.invokevirtual 24, 3) := by decide +kernel
theorem dX14_digest_94 : decode cX14_digest 94 = .ok (.if_icmp .ge 32, 3) := by decide +kernel
theorem dX14_digest_97 : decode cX14_digest 97 = .ok (.iconst 0, 1) := by decide +kernel
theorem dX14_digest_98 : decode cX14_digest 98 = .ok (.istore_n 2, 1) := by decide +kernel
theorem dX14_digest_99 : decode cX14_digest 99 = .ok (.iload_n 2, 1) := by decide +kernel
theorem dX14_digest_100 : decode cX14_digest 100 = .ok (.iconst 5, 1) := by decide +kernel
theorem dX14_digest_101 : decode cX14_digest 101 = .ok (.if_icmp .ge 19, 3) := by decide +kernel
theorem dX14_digest_104 : decode cX14_digest 104 = .ok (.aload_n 0, 1) := by decide +kernel
theorem dX14_digest_105 : decode cX14_digest 105 = .ok (.aload_n 0, 1) := by decide +kernel
theorem dX14_digest_106 : decode cX14_digest 106 = .ok (.iload_n 1, 1) := by decide +kernel
theorem dX14_digest_107 : decode cX14_digest 107 = .ok (.iload_n 2, 1) := by decide +kernel
theorem dX14_digest_108 : decode cX14_digest 108 = .ok (.invokevirtual 150, 3) := by decide +kernel
theorem dX14_digest_111 : decode cX14_digest 111 = .ok (.invokevirtual 262, 3) := by decide +kernel
theorem dX14_digest_114 : decode cX14_digest 114 = .ok (.iinc 2 1, 3) := by decide +kernel
theorem dX14_digest_117 : decode cX14_digest 117 = .ok (.goto (-18), 3) := by decide +kernel
theorem dX14_digest_120 : decode cX14_digest 120 = .ok (.iinc 1 1, 3) := by decide +kernel
theorem dX14_digest_123 : decode cX14_digest 123 = .ok (.goto (-40), 3) := by decide +kernel
theorem dX14_digest_126 : decode cX14_digest 126 = .ok (.iconst 0, 1) := by decide +kernel
theorem dX14_digest_127 : decode cX14_digest 127 = .ok (.istore_n 1, 1) := by decide +kernel
theorem dX14_digest_128 : decode cX14_digest 128 = .ok (.iload_n 1, 1) := by decide +kernel
theorem dX14_digest_129 : decode cX14_digest 129 = .ok (.aload_n 0, 1) := by decide +kernel
theorem dX14_digest_130 : decode cX14_digest 130 = .ok (.getfield 10, 3) := by decide +kernel
theorem dX14_digest_133 : decode cX14_digest 133 = .ok (.getfield 37, 3) := by decide +kernel
theorem dX14_digest_136 : decode cX14_digest 136 = .ok (.invokevirtual 24, 3) := by decide +kernel
theorem dX14_digest_139 : decode cX14_digest 139 = .ok (.if_icmp .ge 64, 3) := by decide +kernel
theorem dX14_digest_142 : decode cX14_digest 142 = .ok (.iconst 0, 1) := by decide +kernel
theorem dX14_digest_143 : decode cX14_digest 143 = .ok (.istore_n 2, 1) := by decide +kernel
theorem dX14_digest_144 : decode cX14_digest 144 = .ok (.iload_n 2, 1) := by decide +kernel
theorem dX14_digest_145 : decode cX14_digest 145 = .ok (.iconst 5, 1) := by decide +kernel
theorem dX14_digest_146 : decode cX14_digest 146 = .ok (.if_icmp .ge 19, 3) := by decide +kernel
theorem dX14_digest_149 : decode cX14_digest 149 = .ok (.aload_n 0, 1) := by decide +kernel
theorem dX14_digest_150 : decode cX14_digest 150 = .ok (.aload_n 0, 1) := by decide +kernel
theorem dX14_digest_151 : decode cX14_digest 151 = .ok (.iload_n 1, 1) := by decide +kernel
theorem dX14_digest_152 : decode cX14_digest 152 = .ok (.iload_n 2, 1) := by decide +kernel
theorem dX14_digest_153 : decode cX14_digest 153 = .ok (.invokevirtual 174, 3) := by decide +kernel
theorem dX14_digest_156 : decode cX14_digest 156 = .ok (.invokevirtual 262, 3) := by decide +kernel
theorem dX14_digest_159 : decode cX14_digest 159 = .ok (.iinc 2 1, 3) := by decide +kernel
theorem dX14_digest_162 : decode cX14_digest 162 = .ok (.goto (-18), 3) := by decide +kernel
theorem dX14_digest_165 : decode cX14_digest 165 = .ok (.iconst 0, 1) := by decide +kernel
theorem dX14_digest_166 : decode cX14_digest 166 = .ok (.istore_n 2, 1) := by decide +kernel
theorem dX14_digest_167 : decode cX14_digest 167 = .ok (.iload_n 2, 1) := by decide +kernel
theorem dX14_digest_168 : decode cX14_digest 168 = .ok (.aload_n 0, 1) := by decide +kernel
theorem dX14_digest_169 : decode cX14_digest 169 = .ok (.getfield 10, 3) := by decide +kernel
theorem dX14_digest_172 : decode cX14_digest 172 = .ok (.getfield 20, 3) := by decide +kernel
theorem dX14_digest_175 : decode cX14_digest 175 = .ok (.invokevirtual 24, 3) := by decide +kernel
theorem dX14_digest_178 : decode cX14_digest 178 = .ok (.if_icmp .ge 19, 3) := by decide +kernel
theorem dX14_digest_181 : decode cX14_digest 181 = .ok (.aload_n 0, 1) := by decide +kernel
theorem dX14_digest_182 : decode cX14_digest 182 = .ok (.aload_n 0, 1) := by decide +kernel
theorem dX14_digest_183 : decode cX14_digest 183 = .ok (.iload_n 1, 1) := by decide +kernel
theorem dX14_digest_184 : decode cX14_digest 184 = .ok (.iload_n 2, 1) := by decide +kernel
theorem dX14_digest_185 : decode cX14_digest 185 = .ok (.invokevirtual 248, 3) := by decide +kernel
theorem dX14_digest_188 : decode cX14_digest 188 = .ok (.invokevirtual 262, 3) := by decide +kernel
theorem dX14_digest_191 : decode cX14_digest 191 = .ok (.iinc 2 1, 3) := by decide +kernel
theorem dX14_digest_194 : decode cX14_digest 194 = .ok (.goto (-27), 3) := by decide +kernel
theorem dX14_digest_197 : decode cX14_digest 197 = .ok (.iinc 1 1, 3) := by decide +kernel
theorem dX14_digest_200 : decode cX14_digest 200 = .ok (.goto (-72), 3) := by decide +kernel
theorem dX14_digest_203 : decode cX14_digest 203 = .ok (.iconst 0, 1) := by decide +kernel
theorem dX14_digest_204 : decode cX14_digest 204 = .ok (.istore_n 1, 1) := by decide +kernel
theorem dX14_digest_205 : decode cX14_digest 205 = .ok (.iload_n 1, 1) := by decide +kernel
theorem dX14_digest_206 : decode cX14_digest 206 = .ok (.aload_n 0, 1) := by decide +kernel
theorem dX14_digest_207 : decode cX14_digest 207 = .ok (.getfield 10, 3) := by decide +kernel
theorem dX14_digest_210 : decode cX14_digest 210 = .ok (.getfield 40, 3) := by decide +kernel
theorem dX14_digest_213 : decode cX14_digest 213 = .ok (.invokevirtual 24, 3) := by decide +kernel
theorem dX14_digest_216 : decode cX14_digest 216 = .ok (.if_icmp .ge 33, 3) := by decide +kernel
theorem dX14_digest_219 : decode cX14_digest 219 = .ok (.iconst 0, 1) := by decide +kernel
theorem dX14_digest_220 : decode cX14_digest 220 = .ok (.istore_n 2, 1) := by decide +kernel
theorem dX14_digest_221 : decode cX14_digest 221 = .ok (.iload_n 2, 1) := by decide +kernel
theorem dX14_digest_222 : decode cX14_digest 222 = .ok (.bipush 8, 2) := by decide +kernel
theorem dX14_digest_224 : decode cX14_digest 224 = .ok (.if_icmp .ge 19, 3) := by decide +kernel
theorem dX14_digest_227 : decode cX14_digest 227 = .ok (.aload_n 0, 1) := by decide +kernel
theorem dX14_digest_228 : decode cX14_digest 228 = .ok (.aload_n 0, 1) := by decide +kernel
theorem dX14_digest_229 : decode cX14_digest 229 = .ok (.iload_n 1, 1) := by decide +kernel
theorem dX14_digest_230 : decode cX14_digest 230 = .ok (.iload_n 2, 1) := by decide +kernel
theorem dX14_digest_231 : decode cX14_digest 231 = .ok (.invokevirtual 236, 3) := by decide +kernel
theorem dX14_digest_234 : decode cX14_digest 234 = .ok (.invokevirtual 262, 3) := by decide +kernel
theorem dX14_digest_237 : decode cX14_digest 237 = .ok (.iinc 2 1, 3) := by decide +kernel
theorem dX14_digest_240 : decode cX14_digest 240 = .ok (.goto (-19), 3) := by decide +kernel
theorem dX14_digest_243 : decode cX14_digest 243 = .ok (.iinc 1 1, 3) := by decide +kernel
theorem dX14_digest_246 : decode cX14_digest 246 = .ok (.goto (-41), 3) := by decide +kernel
theorem dX14_digest_249 : decode cX14_digest 249 = .ok (.iconst 0, 1) := by decide +kernel
theorem dX14_digest_250 : decode cX14_digest 250 = .ok (.istore_n 1, 1) := by decide +kernel
theorem dX14_digest_251 : decode cX14_digest 251 = .ok (.iload_n 1, 1) := by decide +kernel
theorem dX14_digest_252 : decode cX14_digest 252 = .ok (.bipush 8, 2) := by decide +kernel
theorem dX14_digest_254 : decode cX14_digest 254 = .ok (.if_icmp .ge 18, 3) := by decide +kernel
theorem dX14_digest_257 : decode cX14_digest 257 = .ok (.aload_n 0, 1) := by decide +kernel
theorem dX14_digest_258 : decode cX14_digest 258 = .ok (.aload_n 0, 1) := by decide +kernel
theorem dX14_digest_259 : decode cX14_digest 259 = .ok (.iload_n 1, 1) := by decide +kernel
theorem dX14_digest_260 : decode cX14_digest 260 = .ok (.invokevirtual 251, 3) := by decide +kernel
theorem dX14_digest_263 : decode cX14_digest 263 = .ok (.invokevirtual 262, 3) := by decide +kernel
theorem dX14_digest_266 : decode cX14_digest 266 = .ok (.iinc 1 1, 3) := by decide +kernel
theorem dX14_digest_269 : decode cX14_digest 269 = .ok (.goto (-18), 3) := by decide +kernel
theorem dX14_digest_272 : decode cX14_digest 272 = .ok (.aload_n 0, 1) := by decide +kernel
theorem dX14_digest_273 : decode cX14_digest 273 = .ok (.getfield 254, 3) := by decide +kernel
theorem dX14_digest_276 : decode cX14_digest 276 = .ok (.lreturn, 1) := by decide +kernel
theorem dJ13_bitCount_95d88_0 : decode cJ13_bitCount_95d88 0 = .ok (.lload_n 0, 1) := by decide +kernel
theorem dJ13_bitCount_95d88_1 : decode cJ13_bitCount_95d88 1 = .ok (.lload_n 0, 1) := by decide +kernel
theorem dJ13_bitCount_95d88_2 : decode cJ13_bitCount_95d88 2 = .ok (.iconst 1, 1) := by decide +kernel
theorem dJ13_bitCount_95d88_3 : decode cJ13_bitCount_95d88 3 = .ok (.lushr, 1) := by decide +kernel
theorem dJ13_bitCount_95d88_4 : decode cJ13_bitCount_95d88 4 = .ok (.ldc2_w 314, 3) := by decide +kernel
theorem dJ13_bitCount_95d88_7 : decode cJ13_bitCount_95d88 7 = .ok (.land, 1) := by decide +kernel
theorem dJ13_bitCount_95d88_8 : decode cJ13_bitCount_95d88 8 = .ok (.lsub, 1) := by decide +kernel
theorem dJ13_bitCount_95d88_9 : decode cJ13_bitCount_95d88 9 = .ok (.lstore_n 0, 1) := by decide +kernel
theorem dJ13_bitCount_95d88_10 : decode cJ13_bitCount_95d88 10 = .ok (.lload_n 0, 1) := by decide +kernel
theorem dJ13_bitCount_95d88_11 : decode cJ13_bitCount_95d88 11 = .ok (.ldc2_w 316, 3) := by decide +kernel
theorem dJ13_bitCount_95d88_14 : decode cJ13_bitCount_95d88 14 = .ok (.land, 1) := by decide +kernel
theorem dJ13_bitCount_95d88_15 : decode cJ13_bitCount_95d88 15 = .ok (.lload_n 0, 1) := by decide +kernel
theorem dJ13_bitCount_95d88_16 : decode cJ13_bitCount_95d88 16 = .ok (.iconst 2, 1) := by decide +kernel
theorem dJ13_bitCount_95d88_17 : decode cJ13_bitCount_95d88 17 = .ok (.lushr, 1) := by decide +kernel
theorem dJ13_bitCount_95d88_18 : decode cJ13_bitCount_95d88 18 = .ok (.ldc2_w 316, 3) := by decide +kernel
theorem dJ13_bitCount_95d88_21 : decode cJ13_bitCount_95d88 21 = .ok (.land, 1) := by decide +kernel
theorem dJ13_bitCount_95d88_22 : decode cJ13_bitCount_95d88 22 = .ok (.ladd, 1) := by decide +kernel
theorem dJ13_bitCount_95d88_23 : decode cJ13_bitCount_95d88 23 = .ok (.lstore_n 0, 1) := by decide +kernel
theorem dJ13_bitCount_95d88_24 : decode cJ13_bitCount_95d88 24 = .ok (.lload_n 0, 1) := by decide +kernel
theorem dJ13_bitCount_95d88_25 : decode cJ13_bitCount_95d88 25 = .ok (.lload_n 0, 1) := by decide +kernel
theorem dJ13_bitCount_95d88_26 : decode cJ13_bitCount_95d88 26 = .ok (.iconst 4, 1) := by decide +kernel
theorem dJ13_bitCount_95d88_27 : decode cJ13_bitCount_95d88 27 = .ok (.lushr, 1) := by decide +kernel
theorem dJ13_bitCount_95d88_28 : decode cJ13_bitCount_95d88 28 = .ok (.ladd, 1) := by decide +kernel
theorem dJ13_bitCount_95d88_29 : decode cJ13_bitCount_95d88 29 = .ok (.ldc2_w 318, 3) := by decide +kernel
theorem dJ13_bitCount_95d88_32 : decode cJ13_bitCount_95d88 32 = .ok (.land, 1) := by decide +kernel
theorem dJ13_bitCount_95d88_33 : decode cJ13_bitCount_95d88 33 = .ok (.lstore_n 0, 1) := by decide +kernel
theorem dJ13_bitCount_95d88_34 : decode cJ13_bitCount_95d88 34 = .ok (.lload_n 0, 1) := by decide +kernel
theorem dJ13_bitCount_95d88_35 : decode cJ13_bitCount_95d88 35 = .ok (.lload_n 0, 1) := by decide +kernel
theorem dJ13_bitCount_95d88_36 : decode cJ13_bitCount_95d88 36 = .ok (.bipush 8, 2) := by decide +kernel
theorem dJ13_bitCount_95d88_38 : decode cJ13_bitCount_95d88 38 = .ok (.lushr, 1) := by decide +kernel
theorem dJ13_bitCount_95d88_39 : decode cJ13_bitCount_95d88 39 = .ok (.ladd, 1) := by decide +kernel
theorem dJ13_bitCount_95d88_40 : decode cJ13_bitCount_95d88 40 = .ok (.lstore_n 0, 1) := by decide +kernel
theorem dJ13_bitCount_95d88_41 : decode cJ13_bitCount_95d88 41 = .ok (.lload_n 0, 1) := by decide +kernel
theorem dJ13_bitCount_95d88_42 : decode cJ13_bitCount_95d88 42 = .ok (.lload_n 0, 1) := by decide +kernel
theorem dJ13_bitCount_95d88_43 : decode cJ13_bitCount_95d88 43 = .ok (.bipush 16, 2) := by decide +kernel
theorem dJ13_bitCount_95d88_45 : decode cJ13_bitCount_95d88 45 = .ok (.lushr, 1) := by decide +kernel
theorem dJ13_bitCount_95d88_46 : decode cJ13_bitCount_95d88 46 = .ok (.ladd, 1) := by decide +kernel
theorem dJ13_bitCount_95d88_47 : decode cJ13_bitCount_95d88 47 = .ok (.lstore_n 0, 1) := by decide +kernel
theorem dJ13_bitCount_95d88_48 : decode cJ13_bitCount_95d88 48 = .ok (.lload_n 0, 1) := by decide +kernel
theorem dJ13_bitCount_95d88_49 : decode cJ13_bitCount_95d88 49 = .ok (.lload_n 0, 1) := by decide +kernel
theorem dJ13_bitCount_95d88_50 : decode cJ13_bitCount_95d88 50 = .ok (.bipush 32, 2) := by decide +kernel
theorem dJ13_bitCount_95d88_52 : decode cJ13_bitCount_95d88 52 = .ok (.lushr, 1) := by decide +kernel
theorem dJ13_bitCount_95d88_53 : decode cJ13_bitCount_95d88 53 = .ok (.ladd, 1) := by decide +kernel
theorem dJ13_bitCount_95d88_54 : decode cJ13_bitCount_95d88 54 = .ok (.lstore_n 0, 1) := by decide +kernel
theorem dJ13_bitCount_95d88_55 : decode cJ13_bitCount_95d88 55 = .ok (.lload_n 0, 1) := by decide +kernel
theorem dJ13_bitCount_95d88_56 : decode cJ13_bitCount_95d88 56 = .ok (.l2i, 1) := by decide +kernel
theorem dJ13_bitCount_95d88_57 : decode cJ13_bitCount_95d88 57 = .ok (.bipush 127, 2) := by decide +kernel
theorem dJ13_bitCount_95d88_59 : decode cJ13_bitCount_95d88 59 = .ok (.iand, 1) := by decide +kernel
theorem dJ13_bitCount_95d88_60 : decode cJ13_bitCount_95d88 60 = .ok (.ireturn, 1) := by decide +kernel
theorem dJ9_max_7cf53_0 : decode cJ9_max_7cf53 0 = .ok (.iload_n 0, 1) := by decide +kernel
theorem dJ9_max_7cf53_1 : decode cJ9_max_7cf53 1 = .ok (.iload_n 1, 1) := by decide +kernel
theorem dJ9_max_7cf53_2 : decode cJ9_max_7cf53 2 = .ok (.if_icmp .lt 7, 3) := by decide +kernel
theorem dJ9_max_7cf53_5 : decode cJ9_max_7cf53 5 = .ok (.iload_n 0, 1) := by decide +kernel
theorem dJ9_max_7cf53_6 : decode cJ9_max_7cf53 6 = .ok (.goto 4, 3) := by decide +kernel
theorem dJ9_max_7cf53_9 : decode cJ9_max_7cf53 9 = .ok (.iload_n 1, 1) := by decide +kernel
theorem dJ9_max_7cf53_10 : decode cJ9_max_7cf53 10 = .ok (.ireturn, 1) := by decide +kernel
theorem dJ9_min_7cf53_0 : decode cJ9_min_7cf53 0 = .ok (.iload_n 0, 1) := by decide +kernel
theorem dJ9_min_7cf53_1 : decode cJ9_min_7cf53 1 = .ok (.iload_n 1, 1) := by decide +kernel
theorem dJ9_min_7cf53_2 : decode cJ9_min_7cf53 2 = .ok (.if_icmp .gt 7, 3) := by decide +kernel
theorem dJ9_min_7cf53_5 : decode cJ9_min_7cf53 5 = .ok (.iload_n 0, 1) := by decide +kernel
theorem dJ9_min_7cf53_6 : decode cJ9_min_7cf53 6 = .ok (.goto 4, 3) := by decide +kernel
theorem dJ9_min_7cf53_9 : decode cJ9_min_7cf53 9 = .ok (.iload_n 1, 1) := by decide +kernel
theorem dJ9_min_7cf53_10 : decode cJ9_min_7cf53 10 = .ok (.ireturn, 1) := by decide +kernel
theorem dJxa1e45_init_da8c8_0 : decode cJxa1e45_init_da8c8 0 = .ok (.aload_n 0, 1) := by decide +kernel
theorem dJxa1e45_init_da8c8_1 : decode cJxa1e45_init_da8c8 1 = .ok (.invokespecial 1, 3) := by decide +kernel
theorem dJxa1e45_init_da8c8_4 : decode cJxa1e45_init_da8c8 4 = .ok (.return_, 1) := by decide +kernel
theorem dJxc12de_init_da8c8_0 : decode cJxc12de_init_da8c8 0 = .ok (.aload_n 0, 1) := by decide +kernel
theorem dJxc12de_init_da8c8_1 : decode cJxc12de_init_da8c8 1 = .ok (.invokespecial 1, 3) := by decide +kernel
theorem dJxc12de_init_da8c8_4 : decode cJxc12de_init_da8c8 4 = .ok (.aload_n 0, 1) := by decide +kernel
theorem dJxc12de_init_da8c8_5 : decode cJxc12de_init_da8c8 5 = .ok (.iconst 0, 1) := by decide +kernel
theorem dJxc12de_init_da8c8_6 : decode cJxc12de_init_da8c8 6 = .ok (.putfield 7, 3) := by decide +kernel
theorem dJxc12de_init_da8c8_9 : decode cJxc12de_init_da8c8 9 = .ok (.return_, 1) := by decide +kernel
theorem dJx35411_init_45d68_0 : decode cJx35411_init_45d68 0 = .ok (.aload_n 0, 1) := by decide +kernel
theorem dJx35411_init_45d68_1 : decode cJx35411_init_45d68 1 = .ok (.aload_n 1, 1) := by decide +kernel
theorem dJx35411_init_45d68_2 : decode cJx35411_init_45d68 2 = .ok (.putfield 1, 3) := by decide +kernel
theorem dJx35411_init_45d68_5 : decode cJx35411_init_45d68 5 = .ok (.aload_n 0, 1) := by decide +kernel
theorem dJx35411_init_45d68_6 : decode cJx35411_init_45d68 6 = .ok (.invokespecial 7, 3) := by decide +kernel
theorem dJx35411_init_45d68_9 : decode cJx35411_init_45d68 9 = .ok (.aload_n 0, 1) := by decide +kernel
theorem dJx35411_init_45d68_10 : decode cJx35411_init_45d68 10 = .ok (.iconst (-1), 1) := by decide +kernel
theorem dJx35411_init_45d68_11 : decode cJx35411_init_45d68 11 = .ok (.putfield 13, 3) := by decide +kernel
theorem dJx35411_init_45d68_14 : decode cJx35411_init_45d68 14 = .ok (.aload_n 0, 1) := by decide +kernel
theorem dJx35411_init_45d68_15 : decode cJx35411_init_45d68 15 = .ok (.aload_n 0, 1) := by decide +kernel
theorem dJx35411_init_45d68_16 : decode cJx35411_init_45d68 16 = .ok (.getfield 1, 3) := by decide +kernel
theorem dJx35411_init_45d68_19 : decode cJx35411_init_45d68 19 = .ok (.getfield 17, 3) := by decide +kernel
theorem dJx35411_init_45d68_22 : decode cJx35411_init_45d68 22 = .ok (.putfield 22, 3) := by decide +kernel
theorem dJx35411_init_45d68_25 : decode cJx35411_init_45d68 25 = .ok (.return_, 1) := by decide +kernel
theorem dJx35411_hasNext_aae02_0 : decode cJx35411_hasNext_aae02 0 = .ok (.aload_n 0, 1) := by decide +kernel
theorem dJx35411_hasNext_aae02_1 : decode cJx35411_hasNext_aae02 1 = .ok (.getfield 25, 3) := by decide +kernel
theorem dJx35411_hasNext_aae02_4 : decode cJx35411_hasNext_aae02 4 = .ok (.aload_n 0, 1) := by decide +kernel
theorem dJx35411_hasNext_aae02_5 : decode cJx35411_hasNext_aae02 5 = .ok (.getfield 1, 3) := by decide +kernel
theorem dJx35411_hasNext_aae02_8 : decode cJx35411_hasNext_aae02 8 = .ok (.getfield 28, 3) := by decide +kernel
theorem dJx35411_hasNext_aae02_11 : decode cJx35411_hasNext_aae02 11 = .ok (.if_icmp .eq 7, 3) := by decide +kernel
theorem dJx35411_hasNext_aae02_14 : decode cJx35411_hasNext_aae02 14 = .ok (.iconst 1, 1) := by decide +kernel
theorem dJx35411_hasNext_aae02_15 : decode cJx35411_hasNext_aae02 15 = .ok (.goto 4, 3) := by decide +kernel
theorem dJx35411_hasNext_aae02_18 : decode cJx35411_hasNext_aae02 18 = .ok (.iconst 0, 1) := by decide +kernel
theorem dJx35411_hasNext_aae02_19 : decode cJx35411_hasNext_aae02 19 = .ok (.ireturn, 1) := by decide +kernel
theorem dJx35411_next_0502b_0 : decode cJx35411_next_0502b 0 = .ok (.aload_n 0, 1) := by decide +kernel
theorem dJx35411_next_0502b_1 : decode cJx35411_next_0502b 1 = .ok (.invokevirtual 31, 3) := by decide +kernel
theorem dJx35411_next_0502b_4 : decode cJx35411_next_0502b 4 = .ok (.aload_n 0, 1) := by decide +kernel
theorem dJx35411_next_0502b_5 : decode cJx35411_next_0502b 5 = .ok (.getfield 25, 3) := by decide +kernel
theorem dJx35411_next_0502b_8 : decode cJx35411_next_0502b 8 = .ok (.istore_n 1, 1) := by decide +kernel
theorem dJx35411_next_0502b_9 : decode cJx35411_next_0502b 9 = .ok (.iload_n 1, 1) := by decide +kernel
theorem dJx35411_next_0502b_10 : decode cJx35411_next_0502b 10 = .ok (.aload_n 0, 1) := by decide +kernel
theorem dJx35411_next_0502b_11 : decode cJx35411_next_0502b 11 = .ok (.getfield 1, 3) := by decide +kernel
theorem dJx35411_next_0502b_14 : decode cJx35411_next_0502b 14 = .ok (.getfield 28, 3) := by decide +kernel
theorem dJx35411_next_0502b_17 : decode cJx35411_next_0502b 17 = .ok (.if_icmp .lt 11, 3) := by decide +kernel
theorem dJx35411_next_0502b_20 : decode cJx35411_next_0502b 20 = .ok (.new 34, 3) := by decide +kernel
theorem dJx35411_next_0502b_23 : decode cJx35411_next_0502b 23 = .ok (.dup, 1) := by decide +kernel
theorem dJx35411_next_0502b_24 : decode cJx35411_next_0502b 24 = .ok (.invokespecial 36, 3) := by decide +kernel
theorem dJx35411_next_0502b_27 : decode cJx35411_next_0502b 27 = .ok (.athrow, 1) := by decide +kernel
theorem dJx35411_next_0502b_28 : decode cJx35411_next_0502b 28 = .ok (.aload_n 0, 1) := by decide +kernel
theorem dJx35411_next_0502b_29 : decode cJx35411_next_0502b 29 = .ok (.getfield 1, 3) := by decide +kernel
theorem dJx35411_next_0502b_32 : decode cJx35411_next_0502b 32 = .ok (.getfield 37, 3) := by decide +kernel
theorem dJx35411_next_0502b_35 : decode cJx35411_next_0502b 35 = .ok (.astore_n 2, 1) := by decide +kernel
theorem dJx35411_next_0502b_36 : decode cJx35411_next_0502b 36 = .ok (.iload_n 1, 1) := by decide +kernel
theorem dJx35411_next_0502b_37 : decode cJx35411_next_0502b 37 = .ok (.aload_n 2, 1) := by decide +kernel
theorem dJx35411_next_0502b_38 : decode cJx35411_next_0502b 38 = .ok (.arraylength, 1) := by decide +kernel
theorem dJx35411_next_0502b_39 : decode cJx35411_next_0502b 39 = .ok (.if_icmp .lt 11, 3) := by decide +kernel
theorem dJx35411_next_0502b_42 : decode cJx35411_next_0502b 42 = .ok (.new 41, 3) := by decide +kernel
theorem dJx35411_next_0502b_45 : decode cJx35411_next_0502b 45 = .ok (.dup, 1) := by decide +kernel
theorem dJx35411_next_0502b_46 : decode cJx35411_next_0502b 46 = .ok (.invokespecial 43, 3) := by decide +kernel
theorem dJx35411_next_0502b_49 : decode cJx35411_next_0502b 49 = .ok (.athrow, 1) := by decide +kernel
theorem dJx35411_next_0502b_50 : decode cJx35411_next_0502b 50 = .ok (.aload_n 0, 1) := by decide +kernel
theorem dJx35411_next_0502b_51 : decode cJx35411_next_0502b 51 = .ok (.iload_n 1, 1) := by decide +kernel
theorem dJx35411_next_0502b_52 : decode cJx35411_next_0502b 52 = .ok (.iconst 1, 1) := by decide +kernel
theorem dJx35411_next_0502b_53 : decode cJx35411_next_0502b 53 = .ok (.iadd, 1) := by decide +kernel
theorem dJx35411_next_0502b_54 : decode cJx35411_next_0502b 54 = .ok (.putfield 25, 3) := by decide +kernel
theorem dJx35411_next_0502b_57 : decode cJx35411_next_0502b 57 = .ok (.aload_n 2, 1) := by decide +kernel
theorem dJx35411_next_0502b_58 : decode cJx35411_next_0502b 58 = .ok (.aload_n 0, 1) := by decide +kernel
theorem dJx35411_next_0502b_59 : decode cJx35411_next_0502b 59 = .ok (.iload_n 1, 1) := by decide +kernel
theorem dJx35411_next_0502b_60 : decode cJx35411_next_0502b 60 = .ok (.dup_x1, 1) := by decide +kernel
theorem dJx35411_next_0502b_61 : decode cJx35411_next_0502b 61 = .ok (.putfield 13, 3) := by decide +kernel
theorem dJx35411_next_0502b_64 : decode cJx35411_next_0502b 64 = .ok (.aaload, 1) := by decide +kernel
theorem dJx35411_next_0502b_65 : decode cJx35411_next_0502b 65 = .ok (.areturn, 1) := by decide +kernel
theorem dJx35411_checkForComodification_da8c8_0 : decode cJx35411_checkForComodification_da8c8 0 = .ok (.aload_n 0, 1) := by decide +kernel
theorem dJx35411_checkForComodification_da8c8_1 : decode cJx35411_checkForComodification_da8c8 1 = .ok (.getfield 1, 3) := by decide +kernel
theorem dJx35411_checkForComodification_da8c8_4 : decode cJx35411_checkForComodification_da8c8 4 = .ok (.getfield 17, 3) := by decide +kernel
theorem dJx35411_checkForComodification_da8c8_7 : decode cJx35411_checkForComodification_da8c8 7 = .ok (.aload_n 0, 1) := by decide +kernel
theorem dJx35411_checkForComodification_da8c8_8 : decode cJx35411_checkForComodification_da8c8 8 = .ok (.getfield 22, 3) := by decide +kernel
theorem dJx35411_checkForComodification_da8c8_11 : decode cJx35411_checkForComodification_da8c8 11 = .ok (.if_icmp .eq 11, 3) := by decide +kernel
theorem dJx35411_checkForComodification_da8c8_14 : decode cJx35411_checkForComodification_da8c8 14 = .ok (.new 41, 3) := by decide +kernel
theorem dJx35411_checkForComodification_da8c8_17 : decode cJx35411_checkForComodification_da8c8 17 = .ok (.dup, 1) := by decide +kernel
theorem dJx35411_checkForComodification_da8c8_18 : decode cJx35411_checkForComodification_da8c8 18 = .ok (.invokespecial 43, 3) := by decide +kernel
theorem dJx35411_checkForComodification_da8c8_21 : decode cJx35411_checkForComodification_da8c8 21 = .ok (.athrow, 1) := by decide +kernel
theorem dJx35411_checkForComodification_da8c8_22 : decode cJx35411_checkForComodification_da8c8 22 = .ok (.return_, 1) := by decide +kernel
theorem dJx4a65c_init_da8c8_0 : decode cJx4a65c_init_da8c8 0 = .ok (.aload_n 0, 1) := by decide +kernel
theorem dJx4a65c_init_da8c8_1 : decode cJx4a65c_init_da8c8 1 = .ok (.invokespecial 1, 3) := by decide +kernel
theorem dJx4a65c_init_da8c8_4 : decode cJx4a65c_init_da8c8 4 = .ok (.aload_n 0, 1) := by decide +kernel
theorem dJx4a65c_init_da8c8_5 : decode cJx4a65c_init_da8c8 5 = .ok (.getstatic 39, 3) := by decide +kernel
theorem dJx4a65c_init_da8c8_8 : decode cJx4a65c_init_da8c8 8 = .ok (.putfield 9, 3) := by decide +kernel
theorem dJx4a65c_init_da8c8_11 : decode cJx4a65c_init_da8c8 11 = .ok (.return_, 1) := by decide +kernel
theorem dJx4a65c_grow_92f84_0 : decode cJx4a65c_grow_92f84 0 = .ok (.aload_n 0, 1) := by decide +kernel
theorem dJx4a65c_grow_92f84_1 : decode cJx4a65c_grow_92f84 1 = .ok (.getfield 9, 3) := by decide +kernel
theorem dJx4a65c_grow_92f84_4 : decode cJx4a65c_grow_92f84 4 = .ok (.arraylength, 1) := by decide +kernel
theorem dJx4a65c_grow_92f84_5 : decode cJx4a65c_grow_92f84 5 = .ok (.istore_n 2, 1) := by decide +kernel
theorem dJx4a65c_grow_92f84_6 : decode cJx4a65c_grow_92f84 6 = .ok (.iload_n 2, 1) := by decide +kernel
theorem dJx4a65c_grow_92f84_7 : decode cJx4a65c_grow_92f84 7 = .ok (.ifCond .gt 13, 3) := by decide +kernel
theorem dJx4a65c_grow_92f84_10 : decode cJx4a65c_grow_92f84 10 = .ok (.aload_n 0, 1) := by decide +kernel
theorem dJx4a65c_grow_92f84_11 : decode cJx4a65c_grow_92f84 11 = .ok (.getfield 9, 3) := by decide +kernel
theorem dJx4a65c_grow_92f84_14 : decode cJx4a65c_grow_92f84 14 = .ok (.getstatic 39, 3) := by decide +kernel
theorem dJx4a65c_grow_92f84_17 : decode cJx4a65c_grow_92f84 17 = .ok (.if_acmp .eq 28, 3) := by decide +kernel
theorem dJx4a65c_grow_92f84_20 : decode cJx4a65c_grow_92f84 20 = .ok (.iload_n 2, 1) := by decide +kernel
theorem dJx4a65c_grow_92f84_21 : decode cJx4a65c_grow_92f84 21 = .ok (.iload_n 1, 1) := by decide +kernel
theorem dJx4a65c_grow_92f84_22 : decode cJx4a65c_grow_92f84 22 = .ok (.iload_n 2, 1) := by decide +kernel
theorem dJx4a65c_grow_92f84_23 : decode cJx4a65c_grow_92f84 23 = .ok (.isub, 1) := by decide +kernel
theorem dJx4a65c_grow_92f84_24 : decode cJx4a65c_grow_92f84 24 = .ok (.iload_n 2, 1) := by decide +kernel
theorem dJx4a65c_grow_92f84_25 : decode cJx4a65c_grow_92f84 25 = .ok (.iconst 1, 1) := by decide +kernel
theorem dJx4a65c_grow_92f84_26 : decode cJx4a65c_grow_92f84 26 = .ok (.ishr, 1) := by decide +kernel
theorem dJx4a65c_grow_92f84_27 : decode cJx4a65c_grow_92f84 27 = .ok (.invokestatic 73, 3) := by decide +kernel
theorem dJx4a65c_grow_92f84_30 : decode cJx4a65c_grow_92f84 30 = .ok (.istore_n 3, 1) := by decide +kernel
theorem dJx4a65c_grow_92f84_31 : decode cJx4a65c_grow_92f84 31 = .ok (.aload_n 0, 1) := by decide +kernel
theorem dJx4a65c_grow_92f84_32 : decode cJx4a65c_grow_92f84 32 = .ok (.aload_n 0, 1) := by decide +kernel
theorem dJx4a65c_grow_92f84_33 : decode cJx4a65c_grow_92f84 33 = .ok (.getfield 9, 3) := by decide +kernel
theorem dJx4a65c_grow_92f84_36 : decode cJx4a65c_grow_92f84 36 = .ok (.iload_n 3, 1) := by decide +kernel
theorem dJx4a65c_grow_92f84_37 : decode cJx4a65c_grow_92f84 37 = .ok (.invokestatic 66, 3) := by decide +kernel
theorem dJx4a65c_grow_92f84_40 : decode cJx4a65c_grow_92f84 40 = .ok (.dup_x1, 1) := by decide +kernel
theorem dJx4a65c_grow_92f84_41 : decode cJx4a65c_grow_92f84 41 = .ok (.putfield 9, 3) := by decide +kernel
theorem dJx4a65c_grow_92f84_44 : decode cJx4a65c_grow_92f84 44 = .ok (.areturn, 1) := by decide +kernel
theorem dJx4a65c_grow_92f84_45 : decode cJx4a65c_grow_92f84 45 = .ok (.aload_n 0, 1) := by decide +kernel
theorem dJx4a65c_grow_92f84_46 : decode cJx4a65c_grow_92f84 46 = .ok (.bipush 10, 2) := by decide +kernel
theorem dJx4a65c_grow_92f84_48 : decode cJx4a65c_grow_92f84 48 = .ok (.iload_n 1, 1) := by decide +kernel
theorem dJx4a65c_grow_92f84_49 : decode cJx4a65c_grow_92f84 49 = .ok (.invokestatic 79, 3) := by decide +kernel
theorem dJx4a65c_grow_92f84_52 : decode cJx4a65c_grow_92f84 52 = .ok (.anewarray 7, 3) := by decide +kernel
theorem dJx4a65c_grow_92f84_55 : decode cJx4a65c_grow_92f84 55 = .ok (.dup_x1, 1) := by decide +kernel
theorem dJx4a65c_grow_92f84_56 : decode cJx4a65c_grow_92f84 56 = .ok (.putfield 9, 3) := by decide +kernel
theorem dJx4a65c_grow_92f84_59 : decode cJx4a65c_grow_92f84 59 = .ok (.areturn, 1) := by decide +kernel
theorem dJx4a65c_grow_d5877_0 : decode cJx4a65c_grow_d5877 0 = .ok (.aload_n 0, 1) := by decide +kernel
theorem dJx4a65c_grow_d5877_1 : decode cJx4a65c_grow_d5877 1 = .ok (.aload_n 0, 1) := by decide +kernel
theorem dJx4a65c_grow_d5877_2 : decode cJx4a65c_grow_d5877 2 = .ok (.getfield 48, 3) := by decide +kernel
theorem dJx4a65c_grow_d5877_5 : decode cJx4a65c_grow_d5877 5 = .ok (.iconst 1, 1) := by decide +kernel
theorem dJx4a65c_grow_d5877_6 : decode cJx4a65c_grow_d5877 6 = .ok (.iadd, 1) := by decide +kernel
theorem dJx4a65c_grow_d5877_7 : decode cJx4a65c_grow_d5877 7 = .ok (.invokevirtual 69, 3) := by decide +kernel
theorem dJx4a65c_grow_d5877_10 : decode cJx4a65c_grow_d5877 10 = .ok (.areturn, 1) := by decide +kernel
theorem dJx4a65c_size_8abf5_0 : decode cJx4a65c_size_8abf5 0 = .ok (.aload_n 0, 1) := by decide +kernel
theorem dJx4a65c_size_8abf5_1 : decode cJx4a65c_size_8abf5 1 = .ok (.getfield 48, 3) := by decide +kernel
theorem dJx4a65c_size_8abf5_4 : decode cJx4a65c_size_8abf5 4 = .ok (.ireturn, 1) := by decide +kernel
theorem dJx4a65c_elementData_915e3_0 : decode cJx4a65c_elementData_915e3 0 = .ok (.aload_n 0, 1) := by decide +kernel
theorem dJx4a65c_elementData_915e3_1 : decode cJx4a65c_elementData_915e3 1 = .ok (.getfield 9, 3) := by decide +kernel
theorem dJx4a65c_elementData_915e3_4 : decode cJx4a65c_elementData_915e3 4 = .ok (.iload_n 1, 1) := by decide +kernel
theorem dJx4a65c_elementData_915e3_5 : decode cJx4a65c_elementData_915e3 5 = .ok (.aaload, 1) := by decide +kernel
theorem dJx4a65c_elementData_915e3_6 : decode cJx4a65c_elementData_915e3 6 = .ok (.areturn, 1) := by decide +kernel
theorem dJx4a65c_get_915e3_0 : decode cJx4a65c_get_915e3 0 = .ok (.iload_n 1, 1) := by decide +kernel
theorem dJx4a65c_get_915e3_1 : decode cJx4a65c_get_915e3 1 = .ok (.aload_n 0, 1) := by decide +kernel
theorem dJx4a65c_get_915e3_2 : decode cJx4a65c_get_915e3 2 = .ok (.getfield 48, 3) := by decide +kernel
theorem dJx4a65c_get_915e3_5 : decode cJx4a65c_get_915e3 5 = .ok (.invokestatic 118, 3) := by decide +kernel
theorem dJx4a65c_get_915e3_8 : decode cJx4a65c_get_915e3 8 = .ok (.pop, 1) := by decide +kernel
theorem dJx4a65c_get_915e3_9 : decode cJx4a65c_get_915e3 9 = .ok (.aload_n 0, 1) := by decide +kernel
theorem dJx4a65c_get_915e3_10 : decode cJx4a65c_get_915e3 10 = .ok (.iload_n 1, 1) := by decide +kernel
theorem dJx4a65c_get_915e3_11 : decode cJx4a65c_get_915e3 11 = .ok (.invokevirtual 123, 3) := by decide +kernel
theorem dJx4a65c_get_915e3_14 : decode cJx4a65c_get_915e3 14 = .ok (.areturn, 1) := by decide +kernel
theorem dJx4a65c_add_72be8_0 : decode cJx4a65c_add_72be8 0 = .ok (.iload_n 3, 1) := by decide +kernel
theorem dJx4a65c_add_72be8_1 : decode cJx4a65c_add_72be8 1 = .ok (.aload_n 2, 1) := by decide +kernel
theorem dJx4a65c_add_72be8_2 : decode cJx4a65c_add_72be8 2 = .ok (.arraylength, 1) := by decide +kernel
theorem dJx4a65c_add_72be8_3 : decode cJx4a65c_add_72be8 3 = .ok (.if_icmp .ne 8, 3) := by decide +kernel
theorem dJx4a65c_add_72be8_6 : decode cJx4a65c_add_72be8 6 = .ok (.aload_n 0, 1) := by decide +kernel
theorem dJx4a65c_add_72be8_7 : decode cJx4a65c_add_72be8 7 = .ok (.invokevirtual 129, 3) := by decide +kernel
theorem dJx4a65c_add_72be8_10 : decode cJx4a65c_add_72be8 10 = .ok (.astore_n 2, 1) := by decide +kernel
theorem dJx4a65c_add_72be8_11 : decode cJx4a65c_add_72be8 11 = .ok (.aload_n 2, 1) := by decide +kernel
theorem dJx4a65c_add_72be8_12 : decode cJx4a65c_add_72be8 12 = .ok (.iload_n 3, 1) := by decide +kernel
theorem dJx4a65c_add_72be8_13 : decode cJx4a65c_add_72be8 13 = .ok (.aload_n 1, 1) := by decide +kernel
theorem dJx4a65c_add_72be8_14 : decode cJx4a65c_add_72be8 14 = .ok (.aastore, 1) := by decide +kernel
theorem dJx4a65c_add_72be8_15 : decode cJx4a65c_add_72be8 15 = .ok (.aload_n 0, 1) := by decide +kernel
theorem dJx4a65c_add_72be8_16 : decode cJx4a65c_add_72be8 16 = .ok (.iload_n 3, 1) := by decide +kernel
theorem dJx4a65c_add_72be8_17 : decode cJx4a65c_add_72be8 17 = .ok (.iconst 1, 1) := by decide +kernel
theorem dJx4a65c_add_72be8_18 : decode cJx4a65c_add_72be8 18 = .ok (.iadd, 1) := by decide +kernel
theorem dJx4a65c_add_72be8_19 : decode cJx4a65c_add_72be8 19 = .ok (.putfield 48, 3) := by decide +kernel
theorem dJx4a65c_add_72be8_22 : decode cJx4a65c_add_72be8 22 = .ok (.return_, 1) := by decide +kernel
theorem dJx4a65c_add_9ea2d_0 : decode cJx4a65c_add_9ea2d 0 = .ok (.aload_n 0, 1) := by decide +kernel
theorem dJx4a65c_add_9ea2d_1 : decode cJx4a65c_add_9ea2d 1 = .ok (.dup, 1) := by decide +kernel
theorem dJx4a65c_add_9ea2d_2 : decode cJx4a65c_add_9ea2d 2 = .ok (.getfield 63, 3) := by decide +kernel
theorem dJx4a65c_add_9ea2d_5 : decode cJx4a65c_add_9ea2d 5 = .ok (.iconst 1, 1) := by decide +kernel
theorem dJx4a65c_add_9ea2d_6 : decode cJx4a65c_add_9ea2d 6 = .ok (.iadd, 1) := by decide +kernel
theorem dJx4a65c_add_9ea2d_7 : decode cJx4a65c_add_9ea2d 7 = .ok (.putfield 63, 3) := by decide +kernel
theorem dJx4a65c_add_9ea2d_10 : decode cJx4a65c_add_9ea2d 10 = .ok (.aload_n 0, 1) := by decide +kernel
theorem dJx4a65c_add_9ea2d_11 : decode cJx4a65c_add_9ea2d 11 = .ok (.aload_n 1, 1) := by decide +kernel
theorem dJx4a65c_add_9ea2d_12 : decode cJx4a65c_add_9ea2d 12 = .ok (.aload_n 0, 1) := by decide +kernel
theorem dJx4a65c_add_9ea2d_13 : decode cJx4a65c_add_9ea2d 13 = .ok (.getfield 9, 3) := by decide +kernel
theorem dJx4a65c_add_9ea2d_16 : decode cJx4a65c_add_9ea2d 16 = .ok (.aload_n 0, 1) := by decide +kernel
theorem dJx4a65c_add_9ea2d_17 : decode cJx4a65c_add_9ea2d 17 = .ok (.getfield 48, 3) := by decide +kernel
theorem dJx4a65c_add_9ea2d_20 : decode cJx4a65c_add_9ea2d 20 = .ok (.invokevirtual 131, 3) := by decide +kernel
theorem dJx4a65c_add_9ea2d_23 : decode cJx4a65c_add_9ea2d 23 = .ok (.iconst 1, 1) := by decide +kernel
theorem dJx4a65c_add_9ea2d_24 : decode cJx4a65c_add_9ea2d 24 = .ok (.ireturn, 1) := by decide +kernel
theorem dJx4a65c_iterator_32c93_0 : decode cJx4a65c_iterator_32c93 0 = .ok (.new 267, 3) := by decide +kernel
theorem dJx4a65c_iterator_32c93_3 : decode cJx4a65c_iterator_32c93 3 = .ok (.dup, 1) := by decide +kernel
theorem dJx4a65c_iterator_32c93_4 : decode cJx4a65c_iterator_32c93 4 = .ok (.aload_n 0, 1) := by decide +kernel
theorem dJx4a65c_iterator_32c93_5 : decode cJx4a65c_iterator_32c93 5 = .ok (.invokespecial 269, 3) := by decide +kernel
theorem dJx4a65c_iterator_32c93_8 : decode cJx4a65c_iterator_32c93 8 = .ok (.areturn, 1) := by decide +kernel
theorem dJ7_copyOf_1904c_0 : decode cJ7_copyOf_1904c 0 = .ok (.aload_n 0, 1) := by decide +kernel
theorem dJ7_copyOf_1904c_1 : decode cJ7_copyOf_1904c 1 = .ok (.iload_n 1, 1) := by decide +kernel
theorem dJ7_copyOf_1904c_2 : decode cJ7_copyOf_1904c 2 = .ok (.aload_n 0, 1) := by decide +kernel
theorem dJ7_copyOf_1904c_3 : decode cJ7_copyOf_1904c 3 = .ok (.invokevirtual 86, 3) := by decide +kernel
theorem dJ7_copyOf_1904c_6 : decode cJ7_copyOf_1904c 6 = .ok (.invokestatic 300, 3) := by decide +kernel
theorem dJ7_copyOf_1904c_9 : decode cJ7_copyOf_1904c 9 = .ok (.areturn, 1) := by decide +kernel
theorem dJ7_copyOf_6403c_0 : decode cJ7_copyOf_6403c 0 = .ok (.aload_n 2, 1) := by decide +kernel
theorem dJ7_copyOf_6403c_1 : decode cJ7_copyOf_6403c 1 = .ok (.ldc 110, 2) := by decide +kernel
theorem dJ7_copyOf_6403c_3 : decode cJ7_copyOf_6403c 3 = .ok (.if_acmp .ne 10, 3) := by decide +kernel
theorem dJ7_copyOf_6403c_6 : decode cJ7_copyOf_6403c 6 = .ok (.iload_n 1, 1) := by decide +kernel
theorem dJ7_copyOf_6403c_7 : decode cJ7_copyOf_6403c 7 = .ok (.anewarray 2, 3) := by decide +kernel
theorem dJ7_copyOf_6403c_10 : decode cJ7_copyOf_6403c 10 = .ok (.goto 14, 3) := by decide +kernel
theorem dJ7_copyOf_6403c_13 : decode cJ7_copyOf_6403c 13 = .ok (.aload_n 2, 1) := by decide +kernel
theorem dJ7_copyOf_6403c_14 : decode cJ7_copyOf_6403c 14 = .ok (.invokevirtual 90, 3) := by decide +kernel
theorem dJ7_copyOf_6403c_17 : decode cJ7_copyOf_6403c 17 = .ok (.iload_n 1, 1) := by decide +kernel
theorem dJ7_copyOf_6403c_18 : decode cJ7_copyOf_6403c 18 = .ok (.invokestatic 95, 3) := by decide +kernel
theorem dJ7_copyOf_6403c_21 : decode cJ7_copyOf_6403c 21 = .ok (.checkcast 110, 3) := by decide +kernel
theorem dJ7_copyOf_6403c_24 : decode cJ7_copyOf_6403c 24 = .ok (.astore_n 3, 1) := by decide +kernel
theorem dJ7_copyOf_6403c_25 : decode cJ7_copyOf_6403c 25 = .ok (.aload_n 0, 1) := by decide +kernel
theorem dJ7_copyOf_6403c_26 : decode cJ7_copyOf_6403c 26 = .ok (.iconst 0, 1) := by decide +kernel
theorem dJ7_copyOf_6403c_27 : decode cJ7_copyOf_6403c 27 = .ok (.aload_n 3, 1) := by decide +kernel
theorem dJ7_copyOf_6403c_28 : decode cJ7_copyOf_6403c 28 = .ok (.iconst 0, 1) := by decide +kernel
theorem dJ7_copyOf_6403c_29 : decode cJ7_copyOf_6403c 29 = .ok (.aload_n 0, 1) := by decide +kernel
theorem dJ7_copyOf_6403c_30 : decode cJ7_copyOf_6403c 30 = .ok (.arraylength, 1) := by decide +kernel
theorem dJ7_copyOf_6403c_31 : decode cJ7_copyOf_6403c 31 = .ok (.iload_n 1, 1) := by decide +kernel
theorem dJ7_copyOf_6403c_32 : decode cJ7_copyOf_6403c 32 = .ok (.invokestatic 304, 3) := by decide +kernel
theorem dJ7_copyOf_6403c_35 : decode cJ7_copyOf_6403c 35 = .ok (.invokestatic 150, 3) := by decide +kernel
theorem dJ7_copyOf_6403c_38 : decode cJ7_copyOf_6403c 38 = .ok (.aload_n 3, 1) := by decide +kernel
theorem dJ7_copyOf_6403c_39 : decode cJ7_copyOf_6403c 39 = .ok (.areturn, 1) := by decide +kernel
theorem dJ15_checkIndex_7cf53_0 : decode cJ15_checkIndex_7cf53 0 = .ok (.iload_n 0, 1) := by decide +kernel
theorem dJ15_checkIndex_7cf53_1 : decode cJ15_checkIndex_7cf53 1 = .ok (.iload_n 1, 1) := by decide +kernel
theorem dJ15_checkIndex_7cf53_2 : decode cJ15_checkIndex_7cf53 2 = .ok (.aconst_null, 1) := by decide +kernel
theorem dJ15_checkIndex_7cf53_3 : decode cJ15_checkIndex_7cf53 3 = .ok (.invokestatic 105, 3) := by decide +kernel
theorem dJ15_checkIndex_7cf53_6 : decode cJ15_checkIndex_7cf53 6 = .ok (.ireturn, 1) := by decide +kernel
theorem dJ8_newLength_cabcc_0 : decode cJ8_newLength_cabcc 0 = .ok (.iload_n 0, 1) := by decide +kernel
theorem dJ8_newLength_cabcc_1 : decode cJ8_newLength_cabcc 1 = .ok (.iload_n 1, 1) := by decide +kernel
theorem dJ8_newLength_cabcc_2 : decode cJ8_newLength_cabcc 2 = .ok (.iload_n 2, 1) := by decide +kernel
theorem dJ8_newLength_cabcc_3 : decode cJ8_newLength_cabcc 3 = .ok (.invokestatic 194, 3) := by decide +kernel
theorem dJ8_newLength_cabcc_6 : decode cJ8_newLength_cabcc 6 = .ok (.iadd, 1) := by decide +kernel
theorem dJ8_newLength_cabcc_7 : decode cJ8_newLength_cabcc 7 = .ok (.istore_n 3, 1) := by decide +kernel
theorem dJ8_newLength_cabcc_8 : decode cJ8_newLength_cabcc 8 = .ok (.iconst 0, 1) := by decide +kernel
theorem dJ8_newLength_cabcc_9 : decode cJ8_newLength_cabcc 9 = .ok (.iload_n 3, 1) := by decide +kernel
theorem dJ8_newLength_cabcc_10 : decode cJ8_newLength_cabcc 10 = .ok (.if_icmp .ge 11, 3) := by decide +kernel
theorem dJ8_newLength_cabcc_13 : decode cJ8_newLength_cabcc 13 = .ok (.iload_n 3, 1) := by decide +kernel
theorem dJ8_newLength_cabcc_14 : decode cJ8_newLength_cabcc 14 = .ok (.ldc 200, 2) := by decide +kernel
theorem dJ8_newLength_cabcc_16 : decode cJ8_newLength_cabcc 16 = .ok (.if_icmp .gt 5, 3) := by decide +kernel
theorem dJ8_newLength_cabcc_19 : decode cJ8_newLength_cabcc 19 = .ok (.iload_n 3, 1) := by decide +kernel
theorem dJ8_newLength_cabcc_20 : decode cJ8_newLength_cabcc 20 = .ok (.ireturn, 1) := by decide +kernel
theorem dJ8_newLength_cabcc_21 : decode cJ8_newLength_cabcc 21 = .ok (.iload_n 0, 1) := by decide +kernel
theorem dJ8_newLength_cabcc_22 : decode cJ8_newLength_cabcc 22 = .ok (.iload_n 1, 1) := by decide +kernel
theorem dJ8_newLength_cabcc_23 : decode cJ8_newLength_cabcc 23 = .ok (.invokestatic 201, 3) := by decide +kernel
theorem dJ8_newLength_cabcc_26 : decode cJ8_newLength_cabcc 26 = .ok (.ireturn, 1) := by decide +kernel
theorem dJ8_hugeLength_7cf53_0 : decode cJ8_hugeLength_7cf53 0 = .ok (.iload_n 0, 1) := by decide +kernel
theorem dJ8_hugeLength_7cf53_1 : decode cJ8_hugeLength_7cf53 1 = .ok (.iload_n 1, 1) := by decide +kernel
theorem dJ8_hugeLength_7cf53_2 : decode cJ8_hugeLength_7cf53 2 = .ok (.iadd, 1) := by decide +kernel
theorem dJ8_hugeLength_7cf53_3 : decode cJ8_hugeLength_7cf53 3 = .ok (.istore_n 2, 1) := by decide +kernel
theorem dJ8_hugeLength_7cf53_4 : decode cJ8_hugeLength_7cf53 4 = .ok (.iload_n 2, 1) := by decide +kernel
theorem dJ8_hugeLength_7cf53_5 : decode cJ8_hugeLength_7cf53 5 = .ok (.ifCond .ge 44, 3) := by decide +kernel
theorem dJ8_hugeLength_7cf53_8 : decode cJ8_hugeLength_7cf53 8 = .ok (.new 204, 3) := by decide +kernel
theorem dJ8_hugeLength_7cf53_11 : decode cJ8_hugeLength_7cf53 11 = .ok (.dup, 1) := by decide +kernel
theorem dJ8_hugeLength_7cf53_12 : decode cJ8_hugeLength_7cf53 12 = .ok (.new 89, 3) := by decide +kernel
theorem dJ8_hugeLength_7cf53_15 : decode cJ8_hugeLength_7cf53 15 = .ok (.dup, 1) := by decide +kernel
theorem dJ8_hugeLength_7cf53_16 : decode cJ8_hugeLength_7cf53 16 = .ok (.invokespecial 91, 3) := by decide +kernel
theorem dJ8_hugeLength_7cf53_19 : decode cJ8_hugeLength_7cf53 19 = .ok (.ldc 206, 2) := by decide +kernel
theorem dJ8_hugeLength_7cf53_21 : decode cJ8_hugeLength_7cf53 21 = .ok (.invokevirtual 94, 3) := by decide +kernel
theorem dJ8_hugeLength_7cf53_24 : decode cJ8_hugeLength_7cf53 24 = .ok (.iload_n 0, 1) := by decide +kernel
theorem dJ8_hugeLength_7cf53_25 : decode cJ8_hugeLength_7cf53 25 = .ok (.invokevirtual 98, 3) := by decide +kernel
theorem dJ8_hugeLength_7cf53_28 : decode cJ8_hugeLength_7cf53 28 = .ok (.ldc 208, 2) := by decide +kernel
theorem dJ8_hugeLength_7cf53_30 : decode cJ8_hugeLength_7cf53 30 = .ok (.invokevirtual 94, 3) := by decide +kernel
theorem dJ8_hugeLength_7cf53_33 : decode cJ8_hugeLength_7cf53 33 = .ok (.iload_n 1, 1) := by decide +kernel
theorem dJ8_hugeLength_7cf53_34 : decode cJ8_hugeLength_7cf53 34 = .ok (.invokevirtual 98, 3) := by decide +kernel
theorem dJ8_hugeLength_7cf53_37 : decode cJ8_hugeLength_7cf53 37 = .ok (.ldc 210, 2) := by decide +kernel
theorem dJ8_hugeLength_7cf53_39 : decode cJ8_hugeLength_7cf53 39 = .ok (.invokevirtual 94, 3) := by decide +kernel
theorem dJ8_hugeLength_7cf53_42 : decode cJ8_hugeLength_7cf53 42 = .ok (.invokevirtual 101, 3) := by decide +kernel
theorem dJ8_hugeLength_7cf53_45 : decode cJ8_hugeLength_7cf53 45 = .ok (.invokespecial 212, 3) := by decide +kernel
theorem dJ8_hugeLength_7cf53_48 : decode cJ8_hugeLength_7cf53 48 = .ok (.athrow, 1) := by decide +kernel
theorem dJ8_hugeLength_7cf53_49 : decode cJ8_hugeLength_7cf53 49 = .ok (.iload_n 2, 1) := by decide +kernel
theorem dJ8_hugeLength_7cf53_50 : decode cJ8_hugeLength_7cf53 50 = .ok (.ldc 200, 2) := by decide +kernel
theorem dJ8_hugeLength_7cf53_52 : decode cJ8_hugeLength_7cf53 52 = .ok (.if_icmp .gt 6, 3) := by decide +kernel
theorem dJ8_hugeLength_7cf53_55 : decode cJ8_hugeLength_7cf53 55 = .ok (.ldc 200, 2) := by decide +kernel
theorem dJ8_hugeLength_7cf53_57 : decode cJ8_hugeLength_7cf53 57 = .ok (.ireturn, 1) := by decide +kernel
theorem dJ8_hugeLength_7cf53_58 : decode cJ8_hugeLength_7cf53 58 = .ok (.iload_n 2, 1) := by decide +kernel
theorem dJ8_hugeLength_7cf53_59 : decode cJ8_hugeLength_7cf53 59 = .ok (.ireturn, 1) := by decide +kernel
theorem dJ3_checkIndex_8e157_0 : decode cJ3_checkIndex_8e157 0 = .ok (.iload_n 0, 1) := by decide +kernel
theorem dJ3_checkIndex_8e157_1 : decode cJ3_checkIndex_8e157 1 = .ok (.ifCond .lt 8, 3) := by decide +kernel
theorem dJ3_checkIndex_8e157_4 : decode cJ3_checkIndex_8e157 4 = .ok (.iload_n 0, 1) := by decide +kernel
theorem dJ3_checkIndex_8e157_5 : decode cJ3_checkIndex_8e157 5 = .ok (.iload_n 1, 1) := by decide +kernel
theorem dJ3_checkIndex_8e157_6 : decode cJ3_checkIndex_8e157 6 = .ok (.if_icmp .lt 10, 3) := by decide +kernel
theorem dJ3_checkIndex_8e157_9 : decode cJ3_checkIndex_8e157 9 = .ok (.aload_n 2, 1) := by decide +kernel
theorem dJ3_checkIndex_8e157_10 : decode cJ3_checkIndex_8e157 10 = .ok (.iload_n 0, 1) := by decide +kernel
theorem dJ3_checkIndex_8e157_11 : decode cJ3_checkIndex_8e157 11 = .ok (.iload_n 1, 1) := by decide +kernel
theorem dJ3_checkIndex_8e157_12 : decode cJ3_checkIndex_8e157 12 = .ok (.invokestatic 95, 3) := by decide +kernel
theorem dJ3_checkIndex_8e157_15 : decode cJ3_checkIndex_8e157 15 = .ok (.athrow, 1) := by decide +kernel
theorem dJ3_checkIndex_8e157_16 : decode cJ3_checkIndex_8e157 16 = .ok (.iload_n 0, 1) := by decide +kernel
theorem dJ3_checkIndex_8e157_17 : decode cJ3_checkIndex_8e157 17 = .ok (.ireturn, 1) := by decide +kernel
end
section
theorem dL_action_0 : decode cL_action 0 = .ok (.aload 7, 2) := by decide +kernel
theorem dL_action_2 : decode cL_action 2 = .ok (.iconst 0, 1) := by decide +kernel
theorem dL_action_3 : decode cL_action 3 = .ok (.aload_n 0, 1) := by decide +kernel
theorem dL_action_4 : decode cL_action 4 = .ok (.iload_n 1, 1) := by decide +kernel
theorem dL_action_5 : decode cL_action 5 = .ok (.iload_n 2, 1) := by decide +kernel
theorem dL_action_6 : decode cL_action 6 = .ok (.iload_n 3, 1) := by decide +kernel
theorem dL_action_7 : decode cL_action 7 = .ok (.iload 4, 2) := by decide +kernel
theorem dL_action_9 : decode cL_action 9 = .ok (.iload 5, 2) := by decide +kernel
theorem dL_action_11 : decode cL_action 11 = .ok (.iload 6, 2) := by decide +kernel
theorem dL_action_13 : decode cL_action 13 = .ok (.invokevirtual 7, 3) := by decide +kernel
theorem dL_action_16 : decode cL_action 16 = .ok (.i2l, 1) := by decide +kernel
theorem dL_action_17 : decode cL_action 17 = .ok (.lastore, 1) := by decide +kernel
theorem dL_action_18 : decode cL_action 18 = .ok (.goto 11, 3) := by decide +kernel
theorem dL_action_21 : decode cL_action 21 = .ok (.astore 8, 2) := by decide +kernel
theorem dL_action_23 : decode cL_action 23 = .ok (.iconst 1, 1) := by decide +kernel
theorem dL_action_24 : decode cL_action 24 = .ok (.ireturn, 1) := by decide +kernel
theorem dL_action_25 : decode cL_action 25 = .ok (.astore 8, 2) := by decide +kernel
theorem dL_action_27 : decode cL_action 27 = .ok (.iconst 2, 1) := by decide +kernel
theorem dL_action_28 : decode cL_action 28 = .ok (.ireturn, 1) := by decide +kernel
theorem dL_action_29 : decode cL_action 29 = .ok (.iconst 0, 1) := by decide +kernel
theorem dL_action_30 : decode cL_action 30 = .ok (.ireturn, 1) := by decide +kernel
theorem dL_file_0 : decode cL_file 0 = .ok (.aload_n 3, 1) := by decide +kernel
theorem dL_file_1 : decode cL_file 1 = .ok (.iconst 0, 1) := by decide +kernel
theorem dL_file_2 : decode cL_file 2 = .ok (.aload_n 0, 1) := by decide +kernel
theorem dL_file_3 : decode cL_file 3 = .ok (.iload_n 1, 1) := by decide +kernel
theorem dL_file_4 : decode cL_file 4 = .ok (.iload_n 2, 1) := by decide +kernel
theorem dL_file_5 : decode cL_file 5 = .ok (.invokevirtual 17, 3) := by decide +kernel
theorem dL_file_8 : decode cL_file 8 = .ok (.i2l, 1) := by decide +kernel
theorem dL_file_9 : decode cL_file 9 = .ok (.lastore, 1) := by decide +kernel
theorem dL_file_10 : decode cL_file 10 = .ok (.goto 11, 3) := by decide +kernel
theorem dL_file_13 : decode cL_file 13 = .ok (.astore 4, 2) := by decide +kernel
theorem dL_file_15 : decode cL_file 15 = .ok (.iconst 1, 1) := by decide +kernel
theorem dL_file_16 : decode cL_file 16 = .ok (.ireturn, 1) := by decide +kernel
theorem dL_file_17 : decode cL_file 17 = .ok (.astore 4, 2) := by decide +kernel
theorem dL_file_19 : decode cL_file 19 = .ok (.iconst 2, 1) := by decide +kernel
theorem dL_file_20 : decode cL_file 20 = .ok (.ireturn, 1) := by decide +kernel
theorem dL_file_21 : decode cL_file 21 = .ok (.iconst 0, 1) := by decide +kernel
theorem dL_file_22 : decode cL_file 22 = .ok (.ireturn, 1) := by decide +kernel
theorem dL_set_0 : decode cL_set 0 = .ok (.aload_n 3, 1) := by decide +kernel
theorem dL_set_1 : decode cL_set 1 = .ok (.iconst 0, 1) := by decide +kernel
theorem dL_set_2 : decode cL_set 2 = .ok (.aload_n 0, 1) := by decide +kernel
theorem dL_set_3 : decode cL_set 3 = .ok (.iload_n 1, 1) := by decide +kernel
theorem dL_set_4 : decode cL_set 4 = .ok (.iload_n 2, 1) := by decide +kernel
theorem dL_set_5 : decode cL_set 5 = .ok (.invokevirtual 23, 3) := by decide +kernel
theorem dL_set_8 : decode cL_set 8 = .ok (.i2l, 1) := by decide +kernel
theorem dL_set_9 : decode cL_set 9 = .ok (.lastore, 1) := by decide +kernel
theorem dL_set_10 : decode cL_set 10 = .ok (.goto 11, 3) := by decide +kernel
theorem dL_set_13 : decode cL_set 13 = .ok (.astore 4, 2) := by decide +kernel
theorem dL_set_15 : decode cL_set 15 = .ok (.iconst 1, 1) := by decide +kernel
theorem dL_set_16 : decode cL_set 16 = .ok (.ireturn, 1) := by decide +kernel
theorem dL_set_17 : decode cL_set 17 = .ok (.astore 4, 2) := by decide +kernel
theorem dL_set_19 : decode cL_set 19 = .ok (.iconst 2, 1) := by decide +kernel
theorem dL_set_20 : decode cL_set 20 = .ok (.ireturn, 1) := by decide +kernel
theorem dL_set_21 : decode cL_set 21 = .ok (.iconst 0, 1) := by decide +kernel
theorem dL_set_22 : decode cL_set 22 = .ok (.ireturn, 1) := by decide +kernel
theorem dL_ofAction_0 : decode cL_ofAction 0 = .ok (.aload_n 3, 1) := by decide +kernel
theorem dL_ofAction_1 : decode cL_ofAction 1 = .ok (.iconst 0, 1) := by decide +kernel
theorem dL_ofAction_2 : decode cL_ofAction 2 = .ok (.aload_n 0, 1) := by decide +kernel
theorem dL_ofAction_3 : decode cL_ofAction 3 = .ok (.iload_n 1, 1) := by decide +kernel
theorem dL_ofAction_4 : decode cL_ofAction 4 = .ok (.iload_n 2, 1) := by decide +kernel
theorem dL_ofAction_5 : decode cL_ofAction 5 = .ok (.invokevirtual 26, 3) := by decide +kernel
theorem dL_ofAction_8 : decode cL_ofAction 8 = .ok (.i2l, 1) := by decide +kernel
theorem dL_ofAction_9 : decode cL_ofAction 9 = .ok (.lastore, 1) := by decide +kernel
theorem dL_ofAction_10 : decode cL_ofAction 10 = .ok (.goto 11, 3) := by decide +kernel
theorem dL_ofAction_13 : decode cL_ofAction 13 = .ok (.astore 4, 2) := by decide +kernel
theorem dL_ofAction_15 : decode cL_ofAction 15 = .ok (.iconst 1, 1) := by decide +kernel
theorem dL_ofAction_16 : decode cL_ofAction 16 = .ok (.ireturn, 1) := by decide +kernel
theorem dL_ofAction_17 : decode cL_ofAction 17 = .ok (.astore 4, 2) := by decide +kernel
theorem dL_ofAction_19 : decode cL_ofAction 19 = .ok (.iconst 2, 1) := by decide +kernel
theorem dL_ofAction_20 : decode cL_ofAction 20 = .ok (.ireturn, 1) := by decide +kernel
theorem dL_ofAction_21 : decode cL_ofAction 21 = .ok (.iconst 0, 1) := by decide +kernel
theorem dL_ofAction_22 : decode cL_ofAction 22 = .ok (.ireturn, 1) := by decide +kernel
theorem dL_worker_0 : decode cL_worker 0 = .ok (.aload_n 2, 1) := by decide +kernel
theorem dL_worker_1 : decode cL_worker 1 = .ok (.iconst 0, 1) := by decide +kernel
theorem dL_worker_2 : decode cL_worker 2 = .ok (.aload_n 0, 1) := by decide +kernel
theorem dL_worker_3 : decode cL_worker 3 = .ok (.iload_n 1, 1) := by decide +kernel
theorem dL_worker_4 : decode cL_worker 4 = .ok (.invokevirtual 29, 3) := by decide +kernel
theorem dL_worker_7 : decode cL_worker 7 = .ok (.i2l, 1) := by decide +kernel
theorem dL_worker_8 : decode cL_worker 8 = .ok (.lastore, 1) := by decide +kernel
theorem dL_worker_9 : decode cL_worker 9 = .ok (.goto 9, 3) := by decide +kernel
theorem dL_worker_12 : decode cL_worker 12 = .ok (.astore_n 3, 1) := by decide +kernel
theorem dL_worker_13 : decode cL_worker 13 = .ok (.iconst 1, 1) := by decide +kernel
theorem dL_worker_14 : decode cL_worker 14 = .ok (.ireturn, 1) := by decide +kernel
theorem dL_worker_15 : decode cL_worker 15 = .ok (.astore_n 3, 1) := by decide +kernel
theorem dL_worker_16 : decode cL_worker 16 = .ok (.iconst 2, 1) := by decide +kernel
theorem dL_worker_17 : decode cL_worker 17 = .ok (.ireturn, 1) := by decide +kernel
theorem dL_worker_18 : decode cL_worker 18 = .ok (.iconst 0, 1) := by decide +kernel
theorem dL_worker_19 : decode cL_worker 19 = .ok (.ireturn, 1) := by decide +kernel
theorem dL_ofWorker_0 : decode cL_ofWorker 0 = .ok (.aload_n 3, 1) := by decide +kernel
theorem dL_ofWorker_1 : decode cL_ofWorker 1 = .ok (.iconst 0, 1) := by decide +kernel
theorem dL_ofWorker_2 : decode cL_ofWorker 2 = .ok (.aload_n 0, 1) := by decide +kernel
theorem dL_ofWorker_3 : decode cL_ofWorker 3 = .ok (.iload_n 1, 1) := by decide +kernel
theorem dL_ofWorker_4 : decode cL_ofWorker 4 = .ok (.iload_n 2, 1) := by decide +kernel
theorem dL_ofWorker_5 : decode cL_ofWorker 5 = .ok (.invokevirtual 33, 3) := by decide +kernel
theorem dL_ofWorker_8 : decode cL_ofWorker 8 = .ok (.i2l, 1) := by decide +kernel
theorem dL_ofWorker_9 : decode cL_ofWorker 9 = .ok (.lastore, 1) := by decide +kernel
theorem dL_ofWorker_10 : decode cL_ofWorker 10 = .ok (.goto 11, 3) := by decide +kernel
theorem dL_ofWorker_13 : decode cL_ofWorker 13 = .ok (.astore 4, 2) := by decide +kernel
theorem dL_ofWorker_15 : decode cL_ofWorker 15 = .ok (.iconst 1, 1) := by decide +kernel
theorem dL_ofWorker_16 : decode cL_ofWorker 16 = .ok (.ireturn, 1) := by decide +kernel
theorem dL_ofWorker_17 : decode cL_ofWorker 17 = .ok (.astore 4, 2) := by decide +kernel
theorem dL_ofWorker_19 : decode cL_ofWorker 19 = .ok (.iconst 2, 1) := by decide +kernel
theorem dL_ofWorker_20 : decode cL_ofWorker 20 = .ok (.ireturn, 1) := by decide +kernel
theorem dL_ofWorker_21 : decode cL_ofWorker 21 = .ok (.iconst 0, 1) := by decide +kernel
theorem dL_ofWorker_22 : decode cL_ofWorker 22 = .ok (.ireturn, 1) := by decide +kernel
theorem dL_mend_0 : decode cL_mend 0 = .ok (.aload_n 3, 1) := by decide +kernel
theorem dL_mend_1 : decode cL_mend 1 = .ok (.iconst 0, 1) := by decide +kernel
theorem dL_mend_2 : decode cL_mend 2 = .ok (.aload_n 0, 1) := by decide +kernel
theorem dL_mend_3 : decode cL_mend 3 = .ok (.iload_n 1, 1) := by decide +kernel
theorem dL_mend_4 : decode cL_mend 4 = .ok (.iload_n 2, 1) := by decide +kernel
theorem dL_mend_5 : decode cL_mend 5 = .ok (.invokevirtual 36, 3) := by decide +kernel
theorem dL_mend_8 : decode cL_mend 8 = .ok (.i2l, 1) := by decide +kernel
theorem dL_mend_9 : decode cL_mend 9 = .ok (.lastore, 1) := by decide +kernel
theorem dL_mend_10 : decode cL_mend 10 = .ok (.goto 11, 3) := by decide +kernel
theorem dL_mend_13 : decode cL_mend 13 = .ok (.astore 4, 2) := by decide +kernel
theorem dL_mend_15 : decode cL_mend 15 = .ok (.iconst 1, 1) := by decide +kernel
theorem dL_mend_16 : decode cL_mend 16 = .ok (.ireturn, 1) := by decide +kernel
theorem dL_mend_17 : decode cL_mend 17 = .ok (.astore 4, 2) := by decide +kernel
theorem dL_mend_19 : decode cL_mend 19 = .ok (.iconst 2, 1) := by decide +kernel
theorem dL_mend_20 : decode cL_mend 20 = .ok (.ireturn, 1) := by decide +kernel
theorem dL_mend_21 : decode cL_mend 21 = .ok (.iconst 0, 1) := by decide +kernel
theorem dL_mend_22 : decode cL_mend 22 = .ok (.ireturn, 1) := by decide +kernel
theorem dL_team_0 : decode cL_team 0 = .ok (.aload_n 2, 1) := by decide +kernel
theorem dL_team_1 : decode cL_team 1 = .ok (.iconst 0, 1) := by decide +kernel
theorem dL_team_2 : decode cL_team 2 = .ok (.aload_n 0, 1) := by decide +kernel
theorem dL_team_3 : decode cL_team 3 = .ok (.iload_n 1, 1) := by decide +kernel
theorem dL_team_4 : decode cL_team 4 = .ok (.invokevirtual 39, 3) := by decide +kernel
theorem dL_team_7 : decode cL_team 7 = .ok (.i2l, 1) := by decide +kernel
theorem dL_team_8 : decode cL_team 8 = .ok (.lastore, 1) := by decide +kernel
theorem dL_team_9 : decode cL_team 9 = .ok (.goto 9, 3) := by decide +kernel
theorem dL_team_12 : decode cL_team 12 = .ok (.astore_n 3, 1) := by decide +kernel
theorem dL_team_13 : decode cL_team 13 = .ok (.iconst 1, 1) := by decide +kernel
theorem dL_team_14 : decode cL_team 14 = .ok (.ireturn, 1) := by decide +kernel
theorem dL_team_15 : decode cL_team 15 = .ok (.astore_n 3, 1) := by decide +kernel
theorem dL_team_16 : decode cL_team 16 = .ok (.iconst 2, 1) := by decide +kernel
theorem dL_team_17 : decode cL_team 17 = .ok (.ireturn, 1) := by decide +kernel
theorem dL_team_18 : decode cL_team 18 = .ok (.iconst 0, 1) := by decide +kernel
theorem dL_team_19 : decode cL_team 19 = .ok (.ireturn, 1) := by decide +kernel
theorem dL_quota_0 : decode cL_quota 0 = .ok (.aload_n 3, 1) := by decide +kernel
theorem dL_quota_1 : decode cL_quota 1 = .ok (.iconst 0, 1) := by decide +kernel
theorem dL_quota_2 : decode cL_quota 2 = .ok (.aload_n 0, 1) := by decide +kernel
theorem dL_quota_3 : decode cL_quota 3 = .ok (.iload_n 1, 1) := by decide +kernel
theorem dL_quota_4 : decode cL_quota 4 = .ok (.iload_n 2, 1) := by decide +kernel
theorem dL_quota_5 : decode cL_quota 5 = .ok (.invokevirtual 42, 3) := by decide +kernel
theorem dL_quota_8 : decode cL_quota 8 = .ok (.i2l, 1) := by decide +kernel
theorem dL_quota_9 : decode cL_quota 9 = .ok (.lastore, 1) := by decide +kernel
theorem dL_quota_10 : decode cL_quota 10 = .ok (.goto 11, 3) := by decide +kernel
theorem dL_quota_13 : decode cL_quota 13 = .ok (.astore 4, 2) := by decide +kernel
theorem dL_quota_15 : decode cL_quota 15 = .ok (.iconst 1, 1) := by decide +kernel
theorem dL_quota_16 : decode cL_quota 16 = .ok (.ireturn, 1) := by decide +kernel
theorem dL_quota_17 : decode cL_quota 17 = .ok (.astore 4, 2) := by decide +kernel
theorem dL_quota_19 : decode cL_quota 19 = .ok (.iconst 2, 1) := by decide +kernel
theorem dL_quota_20 : decode cL_quota 20 = .ok (.ireturn, 1) := by decide +kernel
theorem dL_quota_21 : decode cL_quota 21 = .ok (.iconst 0, 1) := by decide +kernel
theorem dL_quota_22 : decode cL_quota 22 = .ok (.ireturn, 1) := by decide +kernel
theorem dL_ofTeam_0 : decode cL_ofTeam 0 = .ok (.aload_n 3, 1) := by decide +kernel
theorem dL_ofTeam_1 : decode cL_ofTeam 1 = .ok (.iconst 0, 1) := by decide +kernel
theorem dL_ofTeam_2 : decode cL_ofTeam 2 = .ok (.aload_n 0, 1) := by decide +kernel
theorem dL_ofTeam_3 : decode cL_ofTeam 3 = .ok (.iload_n 1, 1) := by decide +kernel
theorem dL_ofTeam_4 : decode cL_ofTeam 4 = .ok (.iload_n 2, 1) := by decide +kernel
theorem dL_ofTeam_5 : decode cL_ofTeam 5 = .ok (.invokevirtual 45, 3) := by decide +kernel
theorem dL_ofTeam_8 : decode cL_ofTeam 8 = .ok (.i2l, 1) := by decide +kernel
theorem dL_ofTeam_9 : decode cL_ofTeam 9 = .ok (.lastore, 1) := by decide +kernel
theorem dL_ofTeam_10 : decode cL_ofTeam 10 = .ok (.goto 11, 3) := by decide +kernel
theorem dL_ofTeam_13 : decode cL_ofTeam 13 = .ok (.astore 4, 2) := by decide +kernel
theorem dL_ofTeam_15 : decode cL_ofTeam 15 = .ok (.iconst 1, 1) := by decide +kernel
theorem dL_ofTeam_16 : decode cL_ofTeam 16 = .ok (.ireturn, 1) := by decide +kernel
theorem dL_ofTeam_17 : decode cL_ofTeam 17 = .ok (.astore 4, 2) := by decide +kernel
theorem dL_ofTeam_19 : decode cL_ofTeam 19 = .ok (.iconst 2, 1) := by decide +kernel
theorem dL_ofTeam_20 : decode cL_ofTeam 20 = .ok (.ireturn, 1) := by decide +kernel
theorem dL_ofTeam_21 : decode cL_ofTeam 21 = .ok (.iconst 0, 1) := by decide +kernel
theorem dL_ofTeam_22 : decode cL_ofTeam 22 = .ok (.ireturn, 1) := by decide +kernel
theorem dL_build_0 : decode cL_build 0 = .ok (.aload_n 3, 1) := by decide +kernel
theorem dL_build_1 : decode cL_build 1 = .ok (.iconst 0, 1) := by decide +kernel
theorem dL_build_2 : decode cL_build 2 = .ok (.aload_n 0, 1) := by decide +kernel
theorem dL_build_3 : decode cL_build 3 = .ok (.iload_n 1, 1) := by decide +kernel
theorem dL_build_4 : decode cL_build 4 = .ok (.iload_n 2, 1) := by decide +kernel
theorem dL_build_5 : decode cL_build 5 = .ok (.invokevirtual 48, 3) := by decide +kernel
theorem dL_build_8 : decode cL_build 8 = .ok (.i2l, 1) := by decide +kernel
theorem dL_build_9 : decode cL_build 9 = .ok (.lastore, 1) := by decide +kernel
theorem dL_build_10 : decode cL_build 10 = .ok (.goto 11, 3) := by decide +kernel
theorem dL_build_13 : decode cL_build 13 = .ok (.astore 4, 2) := by decide +kernel
theorem dL_build_15 : decode cL_build 15 = .ok (.iconst 1, 1) := by decide +kernel
theorem dL_build_16 : decode cL_build 16 = .ok (.ireturn, 1) := by decide +kernel
theorem dL_build_17 : decode cL_build 17 = .ok (.astore 4, 2) := by decide +kernel
theorem dL_build_19 : decode cL_build 19 = .ok (.iconst 2, 1) := by decide +kernel
theorem dL_build_20 : decode cL_build 20 = .ok (.ireturn, 1) := by decide +kernel
theorem dL_build_21 : decode cL_build 21 = .ok (.iconst 0, 1) := by decide +kernel
theorem dL_build_22 : decode cL_build 22 = .ok (.ireturn, 1) := by decide +kernel
theorem dL_check_0 : decode cL_check 0 = .ok (.aload_n 2, 1) := by decide +kernel
theorem dL_check_1 : decode cL_check 1 = .ok (.iconst 0, 1) := by decide +kernel
theorem dL_check_2 : decode cL_check 2 = .ok (.aload_n 0, 1) := by decide +kernel
theorem dL_check_3 : decode cL_check 3 = .ok (.iload_n 1, 1) := by decide +kernel
theorem dL_check_4 : decode cL_check 4 = .ok (.invokevirtual 51, 3) := by decide +kernel
theorem dL_check_7 : decode cL_check 7 = .ok (.i2l, 1) := by decide +kernel
theorem dL_check_8 : decode cL_check 8 = .ok (.lastore, 1) := by decide +kernel
theorem dL_check_9 : decode cL_check 9 = .ok (.goto 6, 3) := by decide +kernel
theorem dL_check_12 : decode cL_check 12 = .ok (.astore_n 3, 1) := by decide +kernel
theorem dL_check_13 : decode cL_check 13 = .ok (.iconst 1, 1) := by decide +kernel
theorem dL_check_14 : decode cL_check 14 = .ok (.ireturn, 1) := by decide +kernel
theorem dL_check_15 : decode cL_check 15 = .ok (.iconst 0, 1) := by decide +kernel
theorem dL_check_16 : decode cL_check 16 = .ok (.ireturn, 1) := by decide +kernel
theorem dL_recheck_0 : decode cL_recheck 0 = .ok (.aload_n 2, 1) := by decide +kernel
theorem dL_recheck_1 : decode cL_recheck 1 = .ok (.iconst 0, 1) := by decide +kernel
theorem dL_recheck_2 : decode cL_recheck 2 = .ok (.aload_n 0, 1) := by decide +kernel
theorem dL_recheck_3 : decode cL_recheck 3 = .ok (.iload_n 1, 1) := by decide +kernel
theorem dL_recheck_4 : decode cL_recheck 4 = .ok (.invokevirtual 54, 3) := by decide +kernel
theorem dL_recheck_7 : decode cL_recheck 7 = .ok (.i2l, 1) := by decide +kernel
theorem dL_recheck_8 : decode cL_recheck 8 = .ok (.lastore, 1) := by decide +kernel
theorem dL_recheck_9 : decode cL_recheck 9 = .ok (.goto 9, 3) := by decide +kernel
theorem dL_recheck_12 : decode cL_recheck 12 = .ok (.astore_n 3, 1) := by decide +kernel
theorem dL_recheck_13 : decode cL_recheck 13 = .ok (.iconst 1, 1) := by decide +kernel
theorem dL_recheck_14 : decode cL_recheck 14 = .ok (.ireturn, 1) := by decide +kernel
theorem dL_recheck_15 : decode cL_recheck 15 = .ok (.astore_n 3, 1) := by decide +kernel
theorem dL_recheck_16 : decode cL_recheck 16 = .ok (.iconst 2, 1) := by decide +kernel
theorem dL_recheck_17 : decode cL_recheck 17 = .ok (.ireturn, 1) := by decide +kernel
theorem dL_recheck_18 : decode cL_recheck 18 = .ok (.iconst 0, 1) := by decide +kernel
theorem dL_recheck_19 : decode cL_recheck 19 = .ok (.ireturn, 1) := by decide +kernel
theorem dL_ofEntry_0 : decode cL_ofEntry 0 = .ok (.aload_n 3, 1) := by decide +kernel
theorem dL_ofEntry_1 : decode cL_ofEntry 1 = .ok (.iconst 0, 1) := by decide +kernel
theorem dL_ofEntry_2 : decode cL_ofEntry 2 = .ok (.aload_n 0, 1) := by decide +kernel
theorem dL_ofEntry_3 : decode cL_ofEntry 3 = .ok (.iload_n 1, 1) := by decide +kernel
theorem dL_ofEntry_4 : decode cL_ofEntry 4 = .ok (.iload_n 2, 1) := by decide +kernel
theorem dL_ofEntry_5 : decode cL_ofEntry 5 = .ok (.invokevirtual 57, 3) := by decide +kernel
theorem dL_ofEntry_8 : decode cL_ofEntry 8 = .ok (.i2l, 1) := by decide +kernel
theorem dL_ofEntry_9 : decode cL_ofEntry 9 = .ok (.lastore, 1) := by decide +kernel
theorem dL_ofEntry_10 : decode cL_ofEntry 10 = .ok (.goto 11, 3) := by decide +kernel
theorem dL_ofEntry_13 : decode cL_ofEntry 13 = .ok (.astore 4, 2) := by decide +kernel
theorem dL_ofEntry_15 : decode cL_ofEntry 15 = .ok (.iconst 1, 1) := by decide +kernel
theorem dL_ofEntry_16 : decode cL_ofEntry 16 = .ok (.ireturn, 1) := by decide +kernel
theorem dL_ofEntry_17 : decode cL_ofEntry 17 = .ok (.astore 4, 2) := by decide +kernel
theorem dL_ofEntry_19 : decode cL_ofEntry 19 = .ok (.iconst 2, 1) := by decide +kernel
theorem dL_ofEntry_20 : decode cL_ofEntry 20 = .ok (.ireturn, 1) := by decide +kernel
theorem dL_ofEntry_21 : decode cL_ofEntry 21 = .ok (.iconst 0, 1) := by decide +kernel
theorem dL_ofEntry_22 : decode cL_ofEntry 22 = .ok (.ireturn, 1) := by decide +kernel
theorem dL_from_0 : decode cL_from 0 = .ok (.aload_n 3, 1) := by decide +kernel
theorem dL_from_1 : decode cL_from 1 = .ok (.iconst 0, 1) := by decide +kernel
theorem dL_from_2 : decode cL_from 2 = .ok (.aload_n 0, 1) := by decide +kernel
theorem dL_from_3 : decode cL_from 3 = .ok (.iload_n 1, 1) := by decide +kernel
theorem dL_from_4 : decode cL_from 4 = .ok (.iload_n 2, 1) := by decide +kernel
theorem dL_from_5 : decode cL_from 5 = .ok (.invokevirtual 60, 3) := by decide +kernel
theorem dL_from_8 : decode cL_from 8 = .ok (.i2l, 1) := by decide +kernel
theorem dL_from_9 : decode cL_from 9 = .ok (.lastore, 1) := by decide +kernel
theorem dL_from_10 : decode cL_from 10 = .ok (.goto 7, 3) := by decide +kernel
theorem dL_from_13 : decode cL_from 13 = .ok (.astore 4, 2) := by decide +kernel
theorem dL_from_15 : decode cL_from 15 = .ok (.iconst 1, 1) := by decide +kernel
theorem dL_from_16 : decode cL_from 16 = .ok (.ireturn, 1) := by decide +kernel
theorem dL_from_17 : decode cL_from 17 = .ok (.iconst 0, 1) := by decide +kernel
theorem dL_from_18 : decode cL_from 18 = .ok (.ireturn, 1) := by decide +kernel
theorem dL_many_0 : decode cL_many 0 = .ok (.aload_n 2, 1) := by decide +kernel
theorem dL_many_1 : decode cL_many 1 = .ok (.iconst 0, 1) := by decide +kernel
theorem dL_many_2 : decode cL_many 2 = .ok (.aload_n 0, 1) := by decide +kernel
theorem dL_many_3 : decode cL_many 3 = .ok (.iload_n 1, 1) := by decide +kernel
theorem dL_many_4 : decode cL_many 4 = .ok (.invokevirtual 63, 3) := by decide +kernel
theorem dL_many_7 : decode cL_many 7 = .ok (.i2l, 1) := by decide +kernel
theorem dL_many_8 : decode cL_many 8 = .ok (.lastore, 1) := by decide +kernel
theorem dL_many_9 : decode cL_many 9 = .ok (.goto 6, 3) := by decide +kernel
theorem dL_many_12 : decode cL_many 12 = .ok (.astore_n 3, 1) := by decide +kernel
theorem dL_many_13 : decode cL_many 13 = .ok (.iconst 1, 1) := by decide +kernel
theorem dL_many_14 : decode cL_many 14 = .ok (.ireturn, 1) := by decide +kernel
theorem dL_many_15 : decode cL_many 15 = .ok (.iconst 0, 1) := by decide +kernel
theorem dL_many_16 : decode cL_many 16 = .ok (.ireturn, 1) := by decide +kernel
theorem dL_wouldRun_0 : decode cL_wouldRun 0 = .ok (.aload_n 3, 1) := by decide +kernel
theorem dL_wouldRun_1 : decode cL_wouldRun 1 = .ok (.iconst 0, 1) := by decide +kernel
theorem dL_wouldRun_2 : decode cL_wouldRun 2 = .ok (.aload_n 0, 1) := by decide +kernel
theorem dL_wouldRun_3 : decode cL_wouldRun 3 = .ok (.iload_n 1, 1) := by decide +kernel
theorem dL_wouldRun_4 : decode cL_wouldRun 4 = .ok (.iload_n 2, 1) := by decide +kernel
theorem dL_wouldRun_5 : decode cL_wouldRun 5 = .ok (.invokevirtual 66, 3) := by decide +kernel
theorem dL_wouldRun_8 : decode cL_wouldRun 8 = .ok (.i2l, 1) := by decide +kernel
theorem dL_wouldRun_9 : decode cL_wouldRun 9 = .ok (.lastore, 1) := by decide +kernel
theorem dL_wouldRun_10 : decode cL_wouldRun 10 = .ok (.goto 7, 3) := by decide +kernel
theorem dL_wouldRun_13 : decode cL_wouldRun 13 = .ok (.astore 4, 2) := by decide +kernel
theorem dL_wouldRun_15 : decode cL_wouldRun 15 = .ok (.iconst 1, 1) := by decide +kernel
theorem dL_wouldRun_16 : decode cL_wouldRun 16 = .ok (.ireturn, 1) := by decide +kernel
theorem dL_wouldRun_17 : decode cL_wouldRun 17 = .ok (.iconst 0, 1) := by decide +kernel
theorem dL_wouldRun_18 : decode cL_wouldRun 18 = .ok (.ireturn, 1) := by decide +kernel
theorem dL_wouldBeWrong_0 : decode cL_wouldBeWrong 0 = .ok (.aload_n 3, 1) := by decide +kernel
theorem dL_wouldBeWrong_1 : decode cL_wouldBeWrong 1 = .ok (.iconst 0, 1) := by decide +kernel
theorem dL_wouldBeWrong_2 : decode cL_wouldBeWrong 2 = .ok (.aload_n 0, 1) := by decide +kernel
theorem dL_wouldBeWrong_3 : decode cL_wouldBeWrong 3 = .ok (.iload_n 1, 1) := by decide +kernel
theorem dL_wouldBeWrong_4 : decode cL_wouldBeWrong 4 = .ok (.iload_n 2, 1) := by decide +kernel
theorem dL_wouldBeWrong_5 : decode cL_wouldBeWrong 5 = .ok (.invokevirtual 69, 3) := by decide +kernel
theorem dL_wouldBeWrong_8 : decode cL_wouldBeWrong 8 = .ok (.ifCond .eq 7, 3) := by decide +kernel
theorem dL_wouldBeWrong_11 : decode cL_wouldBeWrong 11 = .ok (.lconst 1, 1) := by decide +kernel
theorem dL_wouldBeWrong_12 : decode cL_wouldBeWrong 12 = .ok (.goto 4, 3) := by decide +kernel
theorem dL_wouldBeWrong_15 : decode cL_wouldBeWrong 15 = .ok (.lconst 0, 1) := by decide +kernel
theorem dL_wouldBeWrong_16 : decode cL_wouldBeWrong 16 = .ok (.lastore, 1) := by decide +kernel
theorem dL_wouldBeWrong_17 : decode cL_wouldBeWrong 17 = .ok (.goto 7, 3) := by decide +kernel
theorem dL_wouldBeWrong_20 : decode cL_wouldBeWrong 20 = .ok (.astore 4, 2) := by decide +kernel
theorem dL_wouldBeWrong_22 : decode cL_wouldBeWrong 22 = .ok (.iconst 1, 1) := by decide +kernel
theorem dL_wouldBeWrong_23 : decode cL_wouldBeWrong 23 = .ok (.ireturn, 1) := by decide +kernel
theorem dL_wouldBeWrong_24 : decode cL_wouldBeWrong 24 = .ok (.iconst 0, 1) := by decide +kernel
theorem dL_wouldBeWrong_25 : decode cL_wouldBeWrong 25 = .ok (.ireturn, 1) := by decide +kernel
theorem dL_touched_0 : decode cL_touched 0 = .ok (.aload_n 2, 1) := by decide +kernel
theorem dL_touched_1 : decode cL_touched 1 = .ok (.iconst 0, 1) := by decide +kernel
theorem dL_touched_2 : decode cL_touched 2 = .ok (.aload_n 0, 1) := by decide +kernel
theorem dL_touched_3 : decode cL_touched 3 = .ok (.iload_n 1, 1) := by decide +kernel
theorem dL_touched_4 : decode cL_touched 4 = .ok (.invokevirtual 73, 3) := by decide +kernel
theorem dL_touched_7 : decode cL_touched 7 = .ok (.i2l, 1) := by decide +kernel
theorem dL_touched_8 : decode cL_touched 8 = .ok (.lastore, 1) := by decide +kernel
theorem dL_touched_9 : decode cL_touched 9 = .ok (.goto 6, 3) := by decide +kernel
theorem dL_touched_12 : decode cL_touched 12 = .ok (.astore_n 3, 1) := by decide +kernel
theorem dL_touched_13 : decode cL_touched 13 = .ok (.iconst 1, 1) := by decide +kernel
theorem dL_touched_14 : decode cL_touched 14 = .ok (.ireturn, 1) := by decide +kernel
theorem dL_touched_15 : decode cL_touched 15 = .ok (.iconst 0, 1) := by decide +kernel
theorem dL_touched_16 : decode cL_touched 16 = .ok (.ireturn, 1) := by decide +kernel
theorem dL_wouldGo_0 : decode cL_wouldGo 0 = .ok (.aload_n 3, 1) := by decide +kernel
theorem dL_wouldGo_1 : decode cL_wouldGo 1 = .ok (.iconst 0, 1) := by decide +kernel
theorem dL_wouldGo_2 : decode cL_wouldGo 2 = .ok (.aload_n 0, 1) := by decide +kernel
theorem dL_wouldGo_3 : decode cL_wouldGo 3 = .ok (.iload_n 1, 1) := by decide +kernel
theorem dL_wouldGo_4 : decode cL_wouldGo 4 = .ok (.iload_n 2, 1) := by decide +kernel
theorem dL_wouldGo_5 : decode cL_wouldGo 5 = .ok (.invokevirtual 76, 3) := by decide +kernel
theorem dL_wouldGo_8 : decode cL_wouldGo 8 = .ok (.i2l, 1) := by decide +kernel
theorem dL_wouldGo_9 : decode cL_wouldGo 9 = .ok (.lastore, 1) := by decide +kernel
theorem dL_wouldGo_10 : decode cL_wouldGo 10 = .ok (.goto 11, 3) := by decide +kernel
theorem dL_wouldGo_13 : decode cL_wouldGo 13 = .ok (.astore 4, 2) := by decide +kernel
theorem dL_wouldGo_15 : decode cL_wouldGo 15 = .ok (.iconst 1, 1) := by decide +kernel
theorem dL_wouldGo_16 : decode cL_wouldGo 16 = .ok (.ireturn, 1) := by decide +kernel
theorem dL_wouldGo_17 : decode cL_wouldGo 17 = .ok (.astore 4, 2) := by decide +kernel
theorem dL_wouldGo_19 : decode cL_wouldGo 19 = .ok (.iconst 2, 1) := by decide +kernel
theorem dL_wouldGo_20 : decode cL_wouldGo 20 = .ok (.ireturn, 1) := by decide +kernel
theorem dL_wouldGo_21 : decode cL_wouldGo 21 = .ok (.iconst 0, 1) := by decide +kernel
theorem dL_wouldGo_22 : decode cL_wouldGo 22 = .ok (.ireturn, 1) := by decide +kernel
theorem dL_law_0 : decode cL_law 0 = .ok (.new 8, 3) := by decide +kernel
theorem dL_law_3 : decode cL_law 3 = .ok (.dup, 1) := by decide +kernel
theorem dL_law_4 : decode cL_law 4 = .ok (.invokespecial 79, 3) := by decide +kernel
theorem dL_law_7 : decode cL_law 7 = .ok (.astore_n 1, 1) := by decide +kernel
theorem dL_law_8 : decode cL_law 8 = .ok (.new 80, 3) := by decide +kernel
theorem dL_law_11 : decode cL_law 11 = .ok (.dup, 1) := by decide +kernel
theorem dL_law_12 : decode cL_law 12 = .ok (.invokespecial 82, 3) := by decide +kernel
theorem dL_law_15 : decode cL_law 15 = .ok (.astore_n 2, 1) := by decide +kernel
theorem dL_law_16 : decode cL_law 16 = .ok (.iconst 1, 1) := by decide +kernel
theorem dL_law_17 : decode cL_law 17 = .ok (.newarray .long, 2) := by decide +kernel
theorem dL_law_19 : decode cL_law 19 = .ok (.astore_n 3, 1) := by decide +kernel
theorem dL_law_20 : decode cL_law 20 = .ok (.iconst 0, 1) := by decide +kernel
theorem dL_law_21 : decode cL_law 21 = .ok (.istore 4, 2) := by decide +kernel
theorem dL_law_23 : decode cL_law 23 = .ok (.iload 4, 2) := by decide +kernel
theorem dL_law_25 : decode cL_law 25 = .ok (.aload_n 0, 1) := by decide +kernel
theorem dL_law_26 : decode cL_law 26 = .ok (.arraylength, 1) := by decide +kernel
theorem dL_law_27 : decode cL_law 27 = .ok (.bipush 7, 2) := by decide +kernel
theorem dL_law_29 : decode cL_law 29 = .ok (.isub, 1) := by decide +kernel
theorem dL_law_30 : decode cL_law 30 = .ok (.if_icmp .gt 1520, 3) := by decide +kernel
theorem dL_law_33 : decode cL_law 33 = .ok (.aload_n 0, 1) := by decide +kernel
theorem dL_law_34 : decode cL_law 34 = .ok (.iload 4, 2) := by decide +kernel
theorem dL_law_36 : decode cL_law 36 = .ok (.iaload, 1) := by decide +kernel
theorem dL_law_37 : decode cL_law 37 = .ok (.bipush 31, 2) := by decide +kernel
theorem dL_law_39 : decode cL_law 39 = .ok (.iand, 1) := by decide +kernel
theorem dL_law_40 : decode cL_law 40 = .ok (.tableswitch 1504 0 21 #[104, 222, 290, 358, 426, 482, 550, 618, 674, 742, 810, 878, 934, 990, 1058, 1126, 1182, 1223, 1291, 1366, 1422, 1490], 104) := by decide +kernel
theorem dL_law_144 : decode cL_law 144 = .ok (.aload_n 1, 1) := by decide +kernel
theorem dL_law_145 : decode cL_law 145 = .ok (.aload_n 0, 1) := by decide +kernel
theorem dL_law_146 : decode cL_law 146 = .ok (.iload 4, 2) := by decide +kernel
theorem dL_law_148 : decode cL_law 148 = .ok (.iconst 1, 1) := by decide +kernel
theorem dL_law_149 : decode cL_law 149 = .ok (.iadd, 1) := by decide +kernel
theorem dL_law_150 : decode cL_law 150 = .ok (.iaload, 1) := by decide +kernel
theorem dL_law_151 : decode cL_law 151 = .ok (.aload_n 0, 1) := by decide +kernel
theorem dL_law_152 : decode cL_law 152 = .ok (.iload 4, 2) := by decide +kernel
theorem dL_law_154 : decode cL_law 154 = .ok (.iconst 2, 1) := by decide +kernel
theorem dL_law_155 : decode cL_law 155 = .ok (.iadd, 1) := by decide +kernel
theorem dL_law_156 : decode cL_law 156 = .ok (.iaload, 1) := by decide +kernel
theorem dL_law_157 : decode cL_law 157 = .ok (.aload_n 0, 1) := by decide +kernel
theorem dL_law_158 : decode cL_law 158 = .ok (.iload 4, 2) := by decide +kernel
theorem dL_law_160 : decode cL_law 160 = .ok (.iconst 3, 1) := by decide +kernel
theorem dL_law_161 : decode cL_law 161 = .ok (.iadd, 1) := by decide +kernel
theorem dL_law_162 : decode cL_law 162 = .ok (.iaload, 1) := by decide +kernel
theorem dL_law_163 : decode cL_law 163 = .ok (.aload_n 0, 1) := by decide +kernel
theorem dL_law_164 : decode cL_law 164 = .ok (.iload 4, 2) := by decide +kernel
theorem dL_law_166 : decode cL_law 166 = .ok (.iconst 4, 1) := by decide +kernel
theorem dL_law_167 : decode cL_law 167 = .ok (.iadd, 1) := by decide +kernel
theorem dL_law_168 : decode cL_law 168 = .ok (.iaload, 1) := by decide +kernel
theorem dL_law_169 : decode cL_law 169 = .ok (.aload_n 0, 1) := by decide +kernel
theorem dL_law_170 : decode cL_law 170 = .ok (.iload 4, 2) := by decide +kernel
theorem dL_law_172 : decode cL_law 172 = .ok (.iconst 5, 1) := by decide +kernel
theorem dL_law_173 : decode cL_law 173 = .ok (.iadd, 1) := by decide +kernel
theorem dL_law_174 : decode cL_law 174 = .ok (.iaload, 1) := by decide +kernel
theorem dL_law_175 : decode cL_law 175 = .ok (.aload_n 0, 1) := by decide +kernel
theorem dL_law_176 : decode cL_law 176 = .ok (.iload 4, 2) := by decide +kernel
theorem dL_law_178 : decode cL_law 178 = .ok (.bipush 6, 2) := by decide +kernel
theorem dL_law_180 : decode cL_law 180 = .ok (.iadd, 1) := by decide +kernel
theorem dL_law_181 : decode cL_law 181 = .ok (.iaload, 1) := by decide +kernel
theorem dL_law_182 : decode cL_law 182 = .ok (.aload_n 3, 1) := by decide +kernel
theorem dL_law_183 : decode cL_law 183 = .ok (.invokestatic 83, 3) := by decide +kernel
theorem dL_law_186 : decode cL_law 186 = .ok (.istore 5, 2) := by decide +kernel
theorem dL_law_188 : decode cL_law 188 = .ok (.aload_n 2, 1) := by decide +kernel
theorem dL_law_189 : decode cL_law 189 = .ok (.aload_n 0, 1) := by decide +kernel
theorem dL_law_190 : decode cL_law 190 = .ok (.iload 4, 2) := by decide +kernel
theorem dL_law_192 : decode cL_law 192 = .ok (.iconst 1, 1) := by decide +kernel
theorem dL_law_193 : decode cL_law 193 = .ok (.iadd, 1) := by decide +kernel
theorem dL_law_194 : decode cL_law 194 = .ok (.iaload, 1) := by decide +kernel
theorem dL_law_195 : decode cL_law 195 = .ok (.aload_n 0, 1) := by decide +kernel
theorem dL_law_196 : decode cL_law 196 = .ok (.iload 4, 2) := by decide +kernel
theorem dL_law_198 : decode cL_law 198 = .ok (.iconst 2, 1) := by decide +kernel
theorem dL_law_199 : decode cL_law 199 = .ok (.iadd, 1) := by decide +kernel
theorem dL_law_200 : decode cL_law 200 = .ok (.iaload, 1) := by decide +kernel
theorem dL_law_201 : decode cL_law 201 = .ok (.aload_n 0, 1) := by decide +kernel
theorem dL_law_202 : decode cL_law 202 = .ok (.iload 4, 2) := by decide +kernel
theorem dL_law_204 : decode cL_law 204 = .ok (.iconst 3, 1) := by decide +kernel
theorem dL_law_205 : decode cL_law 205 = .ok (.iadd, 1) := by decide +kernel
theorem dL_law_206 : decode cL_law 206 = .ok (.iaload, 1) := by decide +kernel
theorem dL_law_207 : decode cL_law 207 = .ok (.aload_n 0, 1) := by decide +kernel
theorem dL_law_208 : decode cL_law 208 = .ok (.iload 4, 2) := by decide +kernel
theorem dL_law_210 : decode cL_law 210 = .ok (.iconst 4, 1) := by decide +kernel
theorem dL_law_211 : decode cL_law 211 = .ok (.iadd, 1) := by decide +kernel
theorem dL_law_212 : decode cL_law 212 = .ok (.iaload, 1) := by decide +kernel
theorem dL_law_213 : decode cL_law 213 = .ok (.aload_n 0, 1) := by decide +kernel
theorem dL_law_214 : decode cL_law 214 = .ok (.iload 4, 2) := by decide +kernel
theorem dL_law_216 : decode cL_law 216 = .ok (.iconst 5, 1) := by decide +kernel
theorem dL_law_217 : decode cL_law 217 = .ok (.iadd, 1) := by decide +kernel
theorem dL_law_218 : decode cL_law 218 = .ok (.iaload, 1) := by decide +kernel
theorem dL_law_219 : decode cL_law 219 = .ok (.aload_n 0, 1) := by decide +kernel
theorem dL_law_220 : decode cL_law 220 = .ok (.iload 4, 2) := by decide +kernel
theorem dL_law_222 : decode cL_law 222 = .ok (.bipush 6, 2) := by decide +kernel
theorem dL_law_224 : decode cL_law 224 = .ok (.iadd, 1) := by decide +kernel
theorem dL_law_225 : decode cL_law 225 = .ok (.iaload, 1) := by decide +kernel
theorem dL_law_226 : decode cL_law 226 = .ok (.invokevirtual 88, 3) := by decide +kernel
theorem dL_law_229 : decode cL_law 229 = .ok (.istore 6, 2) := by decide +kernel
theorem dL_law_231 : decode cL_law 231 = .ok (.aload_n 2, 1) := by decide +kernel
theorem dL_law_232 : decode cL_law 232 = .ok (.invokevirtual 89, 3) := by decide +kernel
theorem dL_law_235 : decode cL_law 235 = .ok (.iload 5, 2) := by decide +kernel
theorem dL_law_237 : decode cL_law 237 = .ok (.if_icmp .eq 5, 3) := by decide +kernel
theorem dL_law_240 : decode cL_law 240 = .ok (.iconst 0, 1) := by decide +kernel
theorem dL_law_241 : decode cL_law 241 = .ok (.ireturn, 1) := by decide +kernel
theorem dL_law_242 : decode cL_law 242 = .ok (.iload 5, 2) := by decide +kernel
theorem dL_law_244 : decode cL_law 244 = .ok (.ifCond .ne 15, 3) := by decide +kernel
theorem dL_law_247 : decode cL_law 247 = .ok (.aload_n 3, 1) := by decide +kernel
theorem dL_law_248 : decode cL_law 248 = .ok (.iconst 0, 1) := by decide +kernel
theorem dL_law_249 : decode cL_law 249 = .ok (.laload, 1) := by decide +kernel
theorem dL_law_250 : decode cL_law 250 = .ok (.iload 6, 2) := by decide +kernel
theorem dL_law_252 : decode cL_law 252 = .ok (.i2l, 1) := by decide +kernel
theorem dL_law_253 : decode cL_law 253 = .ok (.lcmp, 1) := by decide +kernel
theorem dL_law_254 : decode cL_law 254 = .ok (.ifCond .eq 5, 3) := by decide +kernel
theorem dL_law_257 : decode cL_law 257 = .ok (.iconst 0, 1) := by decide +kernel
theorem dL_law_258 : decode cL_law 258 = .ok (.ireturn, 1) := by decide +kernel
theorem dL_law_259 : decode cL_law 259 = .ok (.goto 1285, 3) := by decide +kernel
theorem dL_law_262 : decode cL_law 262 = .ok (.aload_n 1, 1) := by decide +kernel
theorem dL_law_263 : decode cL_law 263 = .ok (.aload_n 0, 1) := by decide +kernel
theorem dL_law_264 : decode cL_law 264 = .ok (.iload 4, 2) := by decide +kernel
theorem dL_law_266 : decode cL_law 266 = .ok (.iconst 1, 1) := by decide +kernel
theorem dL_law_267 : decode cL_law 267 = .ok (.iadd, 1) := by decide +kernel
theorem dL_law_268 : decode cL_law 268 = .ok (.iaload, 1) := by decide +kernel
theorem dL_law_269 : decode cL_law 269 = .ok (.aload_n 0, 1) := by decide +kernel
theorem dL_law_270 : decode cL_law 270 = .ok (.iload 4, 2) := by decide +kernel
theorem dL_law_272 : decode cL_law 272 = .ok (.iconst 2, 1) := by decide +kernel
theorem dL_law_273 : decode cL_law 273 = .ok (.iadd, 1) := by decide +kernel
theorem dL_law_274 : decode cL_law 274 = .ok (.iaload, 1) := by decide +kernel
theorem dL_law_275 : decode cL_law 275 = .ok (.aload_n 3, 1) := by decide +kernel
theorem dL_law_276 : decode cL_law 276 = .ok (.invokestatic 93, 3) := by decide +kernel
theorem dL_law_279 : decode cL_law 279 = .ok (.istore 5, 2) := by decide +kernel
theorem dL_law_281 : decode cL_law 281 = .ok (.aload_n 2, 1) := by decide +kernel
theorem dL_law_282 : decode cL_law 282 = .ok (.aload_n 0, 1) := by decide +kernel
theorem dL_law_283 : decode cL_law 283 = .ok (.iload 4, 2) := by decide +kernel
theorem dL_law_285 : decode cL_law 285 = .ok (.iconst 1, 1) := by decide +kernel
theorem dL_law_286 : decode cL_law 286 = .ok (.iadd, 1) := by decide +kernel
theorem dL_law_287 : decode cL_law 287 = .ok (.iaload, 1) := by decide +kernel
theorem dL_law_288 : decode cL_law 288 = .ok (.aload_n 0, 1) := by decide +kernel
theorem dL_law_289 : decode cL_law 289 = .ok (.iload 4, 2) := by decide +kernel
theorem dL_law_291 : decode cL_law 291 = .ok (.iconst 2, 1) := by decide +kernel
theorem dL_law_292 : decode cL_law 292 = .ok (.iadd, 1) := by decide +kernel
theorem dL_law_293 : decode cL_law 293 = .ok (.iaload, 1) := by decide +kernel
theorem dL_law_294 : decode cL_law 294 = .ok (.invokevirtual 96, 3) := by decide +kernel
theorem dL_law_297 : decode cL_law 297 = .ok (.istore 6, 2) := by decide +kernel
theorem dL_law_299 : decode cL_law 299 = .ok (.aload_n 2, 1) := by decide +kernel
theorem dL_law_300 : decode cL_law 300 = .ok (.invokevirtual 89, 3) := by decide +kernel
theorem dL_law_303 : decode cL_law 303 = .ok (.iload 5, 2) := by decide +kernel
theorem dL_law_305 : decode cL_law 305 = .ok (.if_icmp .eq 5, 3) := by decide +kernel
theorem dL_law_308 : decode cL_law 308 = .ok (.iconst 0, 1) := by decide +kernel
theorem dL_law_309 : decode cL_law 309 = .ok (.ireturn, 1) := by decide +kernel
theorem dL_law_310 : decode cL_law 310 = .ok (.iload 5, 2) := by decide +kernel
theorem dL_law_312 : decode cL_law 312 = .ok (.ifCond .ne 15, 3) := by decide +kernel
theorem dL_law_315 : decode cL_law 315 = .ok (.aload_n 3, 1) := by decide +kernel
theorem dL_law_316 : decode cL_law 316 = .ok (.iconst 0, 1) := by decide +kernel
theorem dL_law_317 : decode cL_law 317 = .ok (.laload, 1) := by decide +kernel
theorem dL_law_318 : decode cL_law 318 = .ok (.iload 6, 2) := by decide +kernel
theorem dL_law_320 : decode cL_law 320 = .ok (.i2l, 1) := by decide +kernel
theorem dL_law_321 : decode cL_law 321 = .ok (.lcmp, 1) := by decide +kernel
theorem dL_law_322 : decode cL_law 322 = .ok (.ifCond .eq 5, 3) := by decide +kernel
theorem dL_law_325 : decode cL_law 325 = .ok (.iconst 0, 1) := by decide +kernel
theorem dL_law_326 : decode cL_law 326 = .ok (.ireturn, 1) := by decide +kernel
theorem dL_law_327 : decode cL_law 327 = .ok (.goto 1217, 3) := by decide +kernel
theorem dL_law_330 : decode cL_law 330 = .ok (.aload_n 1, 1) := by decide +kernel
theorem dL_law_331 : decode cL_law 331 = .ok (.aload_n 0, 1) := by decide +kernel
theorem dL_law_332 : decode cL_law 332 = .ok (.iload 4, 2) := by decide +kernel
theorem dL_law_334 : decode cL_law 334 = .ok (.iconst 1, 1) := by decide +kernel
theorem dL_law_335 : decode cL_law 335 = .ok (.iadd, 1) := by decide +kernel
theorem dL_law_336 : decode cL_law 336 = .ok (.iaload, 1) := by decide +kernel
theorem dL_law_337 : decode cL_law 337 = .ok (.aload_n 0, 1) := by decide +kernel
theorem dL_law_338 : decode cL_law 338 = .ok (.iload 4, 2) := by decide +kernel
theorem dL_law_340 : decode cL_law 340 = .ok (.iconst 2, 1) := by decide +kernel
theorem dL_law_341 : decode cL_law 341 = .ok (.iadd, 1) := by decide +kernel
theorem dL_law_342 : decode cL_law 342 = .ok (.iaload, 1) := by decide +kernel
theorem dL_law_343 : decode cL_law 343 = .ok (.aload_n 3, 1) := by decide +kernel
theorem dL_law_344 : decode cL_law 344 = .ok (.invokestatic 97, 3) := by decide +kernel
theorem dL_law_347 : decode cL_law 347 = .ok (.istore 5, 2) := by decide +kernel
theorem dL_law_349 : decode cL_law 349 = .ok (.aload_n 2, 1) := by decide +kernel
theorem dL_law_350 : decode cL_law 350 = .ok (.aload_n 0, 1) := by decide +kernel
theorem dL_law_351 : decode cL_law 351 = .ok (.iload 4, 2) := by decide +kernel
theorem dL_law_353 : decode cL_law 353 = .ok (.iconst 1, 1) := by decide +kernel
theorem dL_law_354 : decode cL_law 354 = .ok (.iadd, 1) := by decide +kernel
theorem dL_law_355 : decode cL_law 355 = .ok (.iaload, 1) := by decide +kernel
theorem dL_law_356 : decode cL_law 356 = .ok (.aload_n 0, 1) := by decide +kernel
theorem dL_law_357 : decode cL_law 357 = .ok (.iload 4, 2) := by decide +kernel
theorem dL_law_359 : decode cL_law 359 = .ok (.iconst 2, 1) := by decide +kernel
theorem dL_law_360 : decode cL_law 360 = .ok (.iadd, 1) := by decide +kernel
theorem dL_law_361 : decode cL_law 361 = .ok (.iaload, 1) := by decide +kernel
theorem dL_law_362 : decode cL_law 362 = .ok (.invokevirtual 99, 3) := by decide +kernel
theorem dL_law_365 : decode cL_law 365 = .ok (.istore 6, 2) := by decide +kernel
theorem dL_law_367 : decode cL_law 367 = .ok (.aload_n 2, 1) := by decide +kernel
theorem dL_law_368 : decode cL_law 368 = .ok (.invokevirtual 89, 3) := by decide +kernel
theorem dL_law_371 : decode cL_law 371 = .ok (.iload 5, 2) := by decide +kernel
theorem dL_law_373 : decode cL_law 373 = .ok (.if_icmp .eq 5, 3) := by decide +kernel
theorem dL_law_376 : decode cL_law 376 = .ok (.iconst 0, 1) := by decide +kernel
theorem dL_law_377 : decode cL_law 377 = .ok (.ireturn, 1) := by decide +kernel
theorem dL_law_378 : decode cL_law 378 = .ok (.iload 5, 2) := by decide +kernel
theorem dL_law_380 : decode cL_law 380 = .ok (.ifCond .ne 15, 3) := by decide +kernel
theorem dL_law_383 : decode cL_law 383 = .ok (.aload_n 3, 1) := by decide +kernel
theorem dL_law_384 : decode cL_law 384 = .ok (.iconst 0, 1) := by decide +kernel
theorem dL_law_385 : decode cL_law 385 = .ok (.laload, 1) := by decide +kernel
theorem dL_law_386 : decode cL_law 386 = .ok (.iload 6, 2) := by decide +kernel
theorem dL_law_388 : decode cL_law 388 = .ok (.i2l, 1) := by decide +kernel
theorem dL_law_389 : decode cL_law 389 = .ok (.lcmp, 1) := by decide +kernel
theorem dL_law_390 : decode cL_law 390 = .ok (.ifCond .eq 5, 3) := by decide +kernel
theorem dL_law_393 : decode cL_law 393 = .ok (.iconst 0, 1) := by decide +kernel
theorem dL_law_394 : decode cL_law 394 = .ok (.ireturn, 1) := by decide +kernel
theorem dL_law_395 : decode cL_law 395 = .ok (.goto 1149, 3) := by decide +kernel
theorem dL_law_398 : decode cL_law 398 = .ok (.aload_n 1, 1) := by decide +kernel
theorem dL_law_399 : decode cL_law 399 = .ok (.aload_n 0, 1) := by decide +kernel
theorem dL_law_400 : decode cL_law 400 = .ok (.iload 4, 2) := by decide +kernel
theorem dL_law_402 : decode cL_law 402 = .ok (.iconst 1, 1) := by decide +kernel
theorem dL_law_403 : decode cL_law 403 = .ok (.iadd, 1) := by decide +kernel
theorem dL_law_404 : decode cL_law 404 = .ok (.iaload, 1) := by decide +kernel
theorem dL_law_405 : decode cL_law 405 = .ok (.aload_n 0, 1) := by decide +kernel
theorem dL_law_406 : decode cL_law 406 = .ok (.iload 4, 2) := by decide +kernel
theorem dL_law_408 : decode cL_law 408 = .ok (.iconst 2, 1) := by decide +kernel
theorem dL_law_409 : decode cL_law 409 = .ok (.iadd, 1) := by decide +kernel
theorem dL_law_410 : decode cL_law 410 = .ok (.iaload, 1) := by decide +kernel
theorem dL_law_411 : decode cL_law 411 = .ok (.aload_n 3, 1) := by decide +kernel
theorem dL_law_412 : decode cL_law 412 = .ok (.invokestatic 100, 3) := by decide +kernel
theorem dL_law_415 : decode cL_law 415 = .ok (.istore 5, 2) := by decide +kernel
theorem dL_law_417 : decode cL_law 417 = .ok (.aload_n 2, 1) := by decide +kernel
theorem dL_law_418 : decode cL_law 418 = .ok (.aload_n 0, 1) := by decide +kernel
theorem dL_law_419 : decode cL_law 419 = .ok (.iload 4, 2) := by decide +kernel
theorem dL_law_421 : decode cL_law 421 = .ok (.iconst 1, 1) := by decide +kernel
theorem dL_law_422 : decode cL_law 422 = .ok (.iadd, 1) := by decide +kernel
theorem dL_law_423 : decode cL_law 423 = .ok (.iaload, 1) := by decide +kernel
theorem dL_law_424 : decode cL_law 424 = .ok (.aload_n 0, 1) := by decide +kernel
theorem dL_law_425 : decode cL_law 425 = .ok (.iload 4, 2) := by decide +kernel
theorem dL_law_427 : decode cL_law 427 = .ok (.iconst 2, 1) := by decide +kernel
theorem dL_law_428 : decode cL_law 428 = .ok (.iadd, 1) := by decide +kernel
theorem dL_law_429 : decode cL_law 429 = .ok (.iaload, 1) := by decide +kernel
theorem dL_law_430 : decode cL_law 430 = .ok (.invokevirtual 102, 3) := by decide +kernel
theorem dL_law_433 : decode cL_law 433 = .ok (.istore 6, 2) := by decide +kernel
theorem dL_law_435 : decode cL_law 435 = .ok (.aload_n 2, 1) := by decide +kernel
theorem dL_law_436 : decode cL_law 436 = .ok (.invokevirtual 89, 3) := by decide +kernel
theorem dL_law_439 : decode cL_law 439 = .ok (.iload 5, 2) := by decide +kernel
theorem dL_law_441 : decode cL_law 441 = .ok (.if_icmp .eq 5, 3) := by decide +kernel
theorem dL_law_444 : decode cL_law 444 = .ok (.iconst 0, 1) := by decide +kernel
theorem dL_law_445 : decode cL_law 445 = .ok (.ireturn, 1) := by decide +kernel
theorem dL_law_446 : decode cL_law 446 = .ok (.iload 5, 2) := by decide +kernel
theorem dL_law_448 : decode cL_law 448 = .ok (.ifCond .ne 15, 3) := by decide +kernel
theorem dL_law_451 : decode cL_law 451 = .ok (.aload_n 3, 1) := by decide +kernel
theorem dL_law_452 : decode cL_law 452 = .ok (.iconst 0, 1) := by decide +kernel
theorem dL_law_453 : decode cL_law 453 = .ok (.laload, 1) := by decide +kernel
theorem dL_law_454 : decode cL_law 454 = .ok (.iload 6, 2) := by decide +kernel
theorem dL_law_456 : decode cL_law 456 = .ok (.i2l, 1) := by decide +kernel
theorem dL_law_457 : decode cL_law 457 = .ok (.lcmp, 1) := by decide +kernel
theorem dL_law_458 : decode cL_law 458 = .ok (.ifCond .eq 5, 3) := by decide +kernel
theorem dL_law_461 : decode cL_law 461 = .ok (.iconst 0, 1) := by decide +kernel
theorem dL_law_462 : decode cL_law 462 = .ok (.ireturn, 1) := by decide +kernel
theorem dL_law_463 : decode cL_law 463 = .ok (.goto 1081, 3) := by decide +kernel
theorem dL_law_466 : decode cL_law 466 = .ok (.aload_n 1, 1) := by decide +kernel
theorem dL_law_467 : decode cL_law 467 = .ok (.aload_n 0, 1) := by decide +kernel
theorem dL_law_468 : decode cL_law 468 = .ok (.iload 4, 2) := by decide +kernel
theorem dL_law_470 : decode cL_law 470 = .ok (.iconst 1, 1) := by decide +kernel
theorem dL_law_471 : decode cL_law 471 = .ok (.iadd, 1) := by decide +kernel
theorem dL_law_472 : decode cL_law 472 = .ok (.iaload, 1) := by decide +kernel
theorem dL_law_473 : decode cL_law 473 = .ok (.aload_n 3, 1) := by decide +kernel
theorem dL_law_474 : decode cL_law 474 = .ok (.invokestatic 103, 3) := by decide +kernel
theorem dL_law_477 : decode cL_law 477 = .ok (.istore 5, 2) := by decide +kernel
theorem dL_law_479 : decode cL_law 479 = .ok (.aload_n 2, 1) := by decide +kernel
theorem dL_law_480 : decode cL_law 480 = .ok (.aload_n 0, 1) := by decide +kernel
theorem dL_law_481 : decode cL_law 481 = .ok (.iload 4, 2) := by decide +kernel
theorem dL_law_483 : decode cL_law 483 = .ok (.iconst 1, 1) := by decide +kernel
theorem dL_law_484 : decode cL_law 484 = .ok (.iadd, 1) := by decide +kernel
theorem dL_law_485 : decode cL_law 485 = .ok (.iaload, 1) := by decide +kernel
theorem dL_law_486 : decode cL_law 486 = .ok (.invokevirtual 106, 3) := by decide +kernel
theorem dL_law_489 : decode cL_law 489 = .ok (.istore 6, 2) := by decide +kernel
theorem dL_law_491 : decode cL_law 491 = .ok (.aload_n 2, 1) := by decide +kernel
theorem dL_law_492 : decode cL_law 492 = .ok (.invokevirtual 89, 3) := by decide +kernel
theorem dL_law_495 : decode cL_law 495 = .ok (.iload 5, 2) := by decide +kernel
theorem dL_law_497 : decode cL_law 497 = .ok (.if_icmp .eq 5, 3) := by decide +kernel
theorem dL_law_500 : decode cL_law 500 = .ok (.iconst 0, 1) := by decide +kernel
theorem dL_law_501 : decode cL_law 501 = .ok (.ireturn, 1) := by decide +kernel
theorem dL_law_502 : decode cL_law 502 = .ok (.iload 5, 2) := by decide +kernel
theorem dL_law_504 : decode cL_law 504 = .ok (.ifCond .ne 15, 3) := by decide +kernel
theorem dL_law_507 : decode cL_law 507 = .ok (.aload_n 3, 1) := by decide +kernel
theorem dL_law_508 : decode cL_law 508 = .ok (.iconst 0, 1) := by decide +kernel
theorem dL_law_509 : decode cL_law 509 = .ok (.laload, 1) := by decide +kernel
theorem dL_law_510 : decode cL_law 510 = .ok (.iload 6, 2) := by decide +kernel
theorem dL_law_512 : decode cL_law 512 = .ok (.i2l, 1) := by decide +kernel
theorem dL_law_513 : decode cL_law 513 = .ok (.lcmp, 1) := by decide +kernel
theorem dL_law_514 : decode cL_law 514 = .ok (.ifCond .eq 5, 3) := by decide +kernel
theorem dL_law_517 : decode cL_law 517 = .ok (.iconst 0, 1) := by decide +kernel
theorem dL_law_518 : decode cL_law 518 = .ok (.ireturn, 1) := by decide +kernel
theorem dL_law_519 : decode cL_law 519 = .ok (.goto 1025, 3) := by decide +kernel
theorem dL_law_522 : decode cL_law 522 = .ok (.aload_n 1, 1) := by decide +kernel
theorem dL_law_523 : decode cL_law 523 = .ok (.aload_n 0, 1) := by decide +kernel
theorem dL_law_524 : decode cL_law 524 = .ok (.iload 4, 2) := by decide +kernel
theorem dL_law_526 : decode cL_law 526 = .ok (.iconst 1, 1) := by decide +kernel
theorem dL_law_527 : decode cL_law 527 = .ok (.iadd, 1) := by decide +kernel
theorem dL_law_528 : decode cL_law 528 = .ok (.iaload, 1) := by decide +kernel
theorem dL_law_529 : decode cL_law 529 = .ok (.aload_n 0, 1) := by decide +kernel
theorem dL_law_530 : decode cL_law 530 = .ok (.iload 4, 2) := by decide +kernel
theorem dL_law_532 : decode cL_law 532 = .ok (.iconst 2, 1) := by decide +kernel
theorem dL_law_533 : decode cL_law 533 = .ok (.iadd, 1) := by decide +kernel
theorem dL_law_534 : decode cL_law 534 = .ok (.iaload, 1) := by decide +kernel
theorem dL_law_535 : decode cL_law 535 = .ok (.aload_n 3, 1) := by decide +kernel
theorem dL_law_536 : decode cL_law 536 = .ok (.invokestatic 107, 3) := by decide +kernel
theorem dL_law_539 : decode cL_law 539 = .ok (.istore 5, 2) := by decide +kernel
theorem dL_law_541 : decode cL_law 541 = .ok (.aload_n 2, 1) := by decide +kernel
theorem dL_law_542 : decode cL_law 542 = .ok (.aload_n 0, 1) := by decide +kernel
theorem dL_law_543 : decode cL_law 543 = .ok (.iload 4, 2) := by decide +kernel
theorem dL_law_545 : decode cL_law 545 = .ok (.iconst 1, 1) := by decide +kernel
theorem dL_law_546 : decode cL_law 546 = .ok (.iadd, 1) := by decide +kernel
theorem dL_law_547 : decode cL_law 547 = .ok (.iaload, 1) := by decide +kernel
theorem dL_law_548 : decode cL_law 548 = .ok (.aload_n 0, 1) := by decide +kernel
theorem dL_law_549 : decode cL_law 549 = .ok (.iload 4, 2) := by decide +kernel
theorem dL_law_551 : decode cL_law 551 = .ok (.iconst 2, 1) := by decide +kernel
theorem dL_law_552 : decode cL_law 552 = .ok (.iadd, 1) := by decide +kernel
theorem dL_law_553 : decode cL_law 553 = .ok (.iaload, 1) := by decide +kernel
theorem dL_law_554 : decode cL_law 554 = .ok (.invokevirtual 109, 3) := by decide +kernel
theorem dL_law_557 : decode cL_law 557 = .ok (.istore 6, 2) := by decide +kernel
theorem dL_law_559 : decode cL_law 559 = .ok (.aload_n 2, 1) := by decide +kernel
theorem dL_law_560 : decode cL_law 560 = .ok (.invokevirtual 89, 3) := by decide +kernel
theorem dL_law_563 : decode cL_law 563 = .ok (.iload 5, 2) := by decide +kernel
theorem dL_law_565 : decode cL_law 565 = .ok (.if_icmp .eq 5, 3) := by decide +kernel
theorem dL_law_568 : decode cL_law 568 = .ok (.iconst 0, 1) := by decide +kernel
theorem dL_law_569 : decode cL_law 569 = .ok (.ireturn, 1) := by decide +kernel
theorem dL_law_570 : decode cL_law 570 = .ok (.iload 5, 2) := by decide +kernel
theorem dL_law_572 : decode cL_law 572 = .ok (.ifCond .ne 15, 3) := by decide +kernel
theorem dL_law_575 : decode cL_law 575 = .ok (.aload_n 3, 1) := by decide +kernel
theorem dL_law_576 : decode cL_law 576 = .ok (.iconst 0, 1) := by decide +kernel
theorem dL_law_577 : decode cL_law 577 = .ok (.laload, 1) := by decide +kernel
theorem dL_law_578 : decode cL_law 578 = .ok (.iload 6, 2) := by decide +kernel
theorem dL_law_580 : decode cL_law 580 = .ok (.i2l, 1) := by decide +kernel
theorem dL_law_581 : decode cL_law 581 = .ok (.lcmp, 1) := by decide +kernel
theorem dL_law_582 : decode cL_law 582 = .ok (.ifCond .eq 5, 3) := by decide +kernel
theorem dL_law_585 : decode cL_law 585 = .ok (.iconst 0, 1) := by decide +kernel
theorem dL_law_586 : decode cL_law 586 = .ok (.ireturn, 1) := by decide +kernel
theorem dL_law_587 : decode cL_law 587 = .ok (.goto 957, 3) := by decide +kernel
theorem dL_law_590 : decode cL_law 590 = .ok (.aload_n 1, 1) := by decide +kernel
theorem dL_law_591 : decode cL_law 591 = .ok (.aload_n 0, 1) := by decide +kernel
theorem dL_law_592 : decode cL_law 592 = .ok (.iload 4, 2) := by decide +kernel
theorem dL_law_594 : decode cL_law 594 = .ok (.iconst 1, 1) := by decide +kernel
theorem dL_law_595 : decode cL_law 595 = .ok (.iadd, 1) := by decide +kernel
theorem dL_law_596 : decode cL_law 596 = .ok (.iaload, 1) := by decide +kernel
theorem dL_law_597 : decode cL_law 597 = .ok (.aload_n 0, 1) := by decide +kernel
theorem dL_law_598 : decode cL_law 598 = .ok (.iload 4, 2) := by decide +kernel
theorem dL_law_600 : decode cL_law 600 = .ok (.iconst 2, 1) := by decide +kernel
theorem dL_law_601 : decode cL_law 601 = .ok (.iadd, 1) := by decide +kernel
theorem dL_law_602 : decode cL_law 602 = .ok (.iaload, 1) := by decide +kernel
theorem dL_law_603 : decode cL_law 603 = .ok (.aload_n 3, 1) := by decide +kernel
theorem dL_law_604 : decode cL_law 604 = .ok (.invokestatic 110, 3) := by decide +kernel
theorem dL_law_607 : decode cL_law 607 = .ok (.istore 5, 2) := by decide +kernel
theorem dL_law_609 : decode cL_law 609 = .ok (.aload_n 2, 1) := by decide +kernel
theorem dL_law_610 : decode cL_law 610 = .ok (.aload_n 0, 1) := by decide +kernel
theorem dL_law_611 : decode cL_law 611 = .ok (.iload 4, 2) := by decide +kernel
theorem dL_law_613 : decode cL_law 613 = .ok (.iconst 1, 1) := by decide +kernel
theorem dL_law_614 : decode cL_law 614 = .ok (.iadd, 1) := by decide +kernel
theorem dL_law_615 : decode cL_law 615 = .ok (.iaload, 1) := by decide +kernel
theorem dL_law_616 : decode cL_law 616 = .ok (.aload_n 0, 1) := by decide +kernel
theorem dL_law_617 : decode cL_law 617 = .ok (.iload 4, 2) := by decide +kernel
theorem dL_law_619 : decode cL_law 619 = .ok (.iconst 2, 1) := by decide +kernel
theorem dL_law_620 : decode cL_law 620 = .ok (.iadd, 1) := by decide +kernel
theorem dL_law_621 : decode cL_law 621 = .ok (.iaload, 1) := by decide +kernel
theorem dL_law_622 : decode cL_law 622 = .ok (.invokevirtual 112, 3) := by decide +kernel
theorem dL_law_625 : decode cL_law 625 = .ok (.istore 6, 2) := by decide +kernel
theorem dL_law_627 : decode cL_law 627 = .ok (.aload_n 2, 1) := by decide +kernel
theorem dL_law_628 : decode cL_law 628 = .ok (.invokevirtual 89, 3) := by decide +kernel
theorem dL_law_631 : decode cL_law 631 = .ok (.iload 5, 2) := by decide +kernel
theorem dL_law_633 : decode cL_law 633 = .ok (.if_icmp .eq 5, 3) := by decide +kernel
theorem dL_law_636 : decode cL_law 636 = .ok (.iconst 0, 1) := by decide +kernel
theorem dL_law_637 : decode cL_law 637 = .ok (.ireturn, 1) := by decide +kernel
theorem dL_law_638 : decode cL_law 638 = .ok (.iload 5, 2) := by decide +kernel
theorem dL_law_640 : decode cL_law 640 = .ok (.ifCond .ne 15, 3) := by decide +kernel
theorem dL_law_643 : decode cL_law 643 = .ok (.aload_n 3, 1) := by decide +kernel
theorem dL_law_644 : decode cL_law 644 = .ok (.iconst 0, 1) := by decide +kernel
theorem dL_law_645 : decode cL_law 645 = .ok (.laload, 1) := by decide +kernel
theorem dL_law_646 : decode cL_law 646 = .ok (.iload 6, 2) := by decide +kernel
theorem dL_law_648 : decode cL_law 648 = .ok (.i2l, 1) := by decide +kernel
theorem dL_law_649 : decode cL_law 649 = .ok (.lcmp, 1) := by decide +kernel
theorem dL_law_650 : decode cL_law 650 = .ok (.ifCond .eq 5, 3) := by decide +kernel
theorem dL_law_653 : decode cL_law 653 = .ok (.iconst 0, 1) := by decide +kernel
theorem dL_law_654 : decode cL_law 654 = .ok (.ireturn, 1) := by decide +kernel
theorem dL_law_655 : decode cL_law 655 = .ok (.goto 889, 3) := by decide +kernel
theorem dL_law_658 : decode cL_law 658 = .ok (.aload_n 1, 1) := by decide +kernel
theorem dL_law_659 : decode cL_law 659 = .ok (.aload_n 0, 1) := by decide +kernel
theorem dL_law_660 : decode cL_law 660 = .ok (.iload 4, 2) := by decide +kernel
theorem dL_law_662 : decode cL_law 662 = .ok (.iconst 1, 1) := by decide +kernel
theorem dL_law_663 : decode cL_law 663 = .ok (.iadd, 1) := by decide +kernel
theorem dL_law_664 : decode cL_law 664 = .ok (.iaload, 1) := by decide +kernel
theorem dL_law_665 : decode cL_law 665 = .ok (.aload_n 3, 1) := by decide +kernel
theorem dL_law_666 : decode cL_law 666 = .ok (.invokestatic 113, 3) := by decide +kernel
theorem dL_law_669 : decode cL_law 669 = .ok (.istore 5, 2) := by decide +kernel
theorem dL_law_671 : decode cL_law 671 = .ok (.aload_n 2, 1) := by decide +kernel
theorem dL_law_672 : decode cL_law 672 = .ok (.aload_n 0, 1) := by decide +kernel
theorem dL_law_673 : decode cL_law 673 = .ok (.iload 4, 2) := by decide +kernel
theorem dL_law_675 : decode cL_law 675 = .ok (.iconst 1, 1) := by decide +kernel
theorem dL_law_676 : decode cL_law 676 = .ok (.iadd, 1) := by decide +kernel
theorem dL_law_677 : decode cL_law 677 = .ok (.iaload, 1) := by decide +kernel
theorem dL_law_678 : decode cL_law 678 = .ok (.invokevirtual 115, 3) := by decide +kernel
theorem dL_law_681 : decode cL_law 681 = .ok (.istore 6, 2) := by decide +kernel
theorem dL_law_683 : decode cL_law 683 = .ok (.aload_n 2, 1) := by decide +kernel
theorem dL_law_684 : decode cL_law 684 = .ok (.invokevirtual 89, 3) := by decide +kernel
theorem dL_law_687 : decode cL_law 687 = .ok (.iload 5, 2) := by decide +kernel
theorem dL_law_689 : decode cL_law 689 = .ok (.if_icmp .eq 5, 3) := by decide +kernel
theorem dL_law_692 : decode cL_law 692 = .ok (.iconst 0, 1) := by decide +kernel
theorem dL_law_693 : decode cL_law 693 = .ok (.ireturn, 1) := by decide +kernel
theorem dL_law_694 : decode cL_law 694 = .ok (.iload 5, 2) := by decide +kernel
theorem dL_law_696 : decode cL_law 696 = .ok (.ifCond .ne 15, 3) := by decide +kernel
theorem dL_law_699 : decode cL_law 699 = .ok (.aload_n 3, 1) := by decide +kernel
theorem dL_law_700 : decode cL_law 700 = .ok (.iconst 0, 1) := by decide +kernel
theorem dL_law_701 : decode cL_law 701 = .ok (.laload, 1) := by decide +kernel
theorem dL_law_702 : decode cL_law 702 = .ok (.iload 6, 2) := by decide +kernel
theorem dL_law_704 : decode cL_law 704 = .ok (.i2l, 1) := by decide +kernel
theorem dL_law_705 : decode cL_law 705 = .ok (.lcmp, 1) := by decide +kernel
theorem dL_law_706 : decode cL_law 706 = .ok (.ifCond .eq 5, 3) := by decide +kernel
theorem dL_law_709 : decode cL_law 709 = .ok (.iconst 0, 1) := by decide +kernel
theorem dL_law_710 : decode cL_law 710 = .ok (.ireturn, 1) := by decide +kernel
theorem dL_law_711 : decode cL_law 711 = .ok (.goto 833, 3) := by decide +kernel
theorem dL_law_714 : decode cL_law 714 = .ok (.aload_n 1, 1) := by decide +kernel
theorem dL_law_715 : decode cL_law 715 = .ok (.aload_n 0, 1) := by decide +kernel
theorem dL_law_716 : decode cL_law 716 = .ok (.iload 4, 2) := by decide +kernel
theorem dL_law_718 : decode cL_law 718 = .ok (.iconst 1, 1) := by decide +kernel
theorem dL_law_719 : decode cL_law 719 = .ok (.iadd, 1) := by decide +kernel
theorem dL_law_720 : decode cL_law 720 = .ok (.iaload, 1) := by decide +kernel
theorem dL_law_721 : decode cL_law 721 = .ok (.aload_n 0, 1) := by decide +kernel
theorem dL_law_722 : decode cL_law 722 = .ok (.iload 4, 2) := by decide +kernel
theorem dL_law_724 : decode cL_law 724 = .ok (.iconst 2, 1) := by decide +kernel
theorem dL_law_725 : decode cL_law 725 = .ok (.iadd, 1) := by decide +kernel
theorem dL_law_726 : decode cL_law 726 = .ok (.iaload, 1) := by decide +kernel
theorem dL_law_727 : decode cL_law 727 = .ok (.aload_n 3, 1) := by decide +kernel
theorem dL_law_728 : decode cL_law 728 = .ok (.invokestatic 116, 3) := by decide +kernel
theorem dL_law_731 : decode cL_law 731 = .ok (.istore 5, 2) := by decide +kernel
theorem dL_law_733 : decode cL_law 733 = .ok (.aload_n 2, 1) := by decide +kernel
theorem dL_law_734 : decode cL_law 734 = .ok (.aload_n 0, 1) := by decide +kernel
theorem dL_law_735 : decode cL_law 735 = .ok (.iload 4, 2) := by decide +kernel
theorem dL_law_737 : decode cL_law 737 = .ok (.iconst 1, 1) := by decide +kernel
theorem dL_law_738 : decode cL_law 738 = .ok (.iadd, 1) := by decide +kernel
theorem dL_law_739 : decode cL_law 739 = .ok (.iaload, 1) := by decide +kernel
theorem dL_law_740 : decode cL_law 740 = .ok (.aload_n 0, 1) := by decide +kernel
theorem dL_law_741 : decode cL_law 741 = .ok (.iload 4, 2) := by decide +kernel
theorem dL_law_743 : decode cL_law 743 = .ok (.iconst 2, 1) := by decide +kernel
theorem dL_law_744 : decode cL_law 744 = .ok (.iadd, 1) := by decide +kernel
theorem dL_law_745 : decode cL_law 745 = .ok (.iaload, 1) := by decide +kernel
theorem dL_law_746 : decode cL_law 746 = .ok (.invokevirtual 118, 3) := by decide +kernel
theorem dL_law_749 : decode cL_law 749 = .ok (.istore 6, 2) := by decide +kernel
theorem dL_law_751 : decode cL_law 751 = .ok (.aload_n 2, 1) := by decide +kernel
theorem dL_law_752 : decode cL_law 752 = .ok (.invokevirtual 89, 3) := by decide +kernel
theorem dL_law_755 : decode cL_law 755 = .ok (.iload 5, 2) := by decide +kernel
theorem dL_law_757 : decode cL_law 757 = .ok (.if_icmp .eq 5, 3) := by decide +kernel
theorem dL_law_760 : decode cL_law 760 = .ok (.iconst 0, 1) := by decide +kernel
theorem dL_law_761 : decode cL_law 761 = .ok (.ireturn, 1) := by decide +kernel
theorem dL_law_762 : decode cL_law 762 = .ok (.iload 5, 2) := by decide +kernel
theorem dL_law_764 : decode cL_law 764 = .ok (.ifCond .ne 15, 3) := by decide +kernel
theorem dL_law_767 : decode cL_law 767 = .ok (.aload_n 3, 1) := by decide +kernel
theorem dL_law_768 : decode cL_law 768 = .ok (.iconst 0, 1) := by decide +kernel
theorem dL_law_769 : decode cL_law 769 = .ok (.laload, 1) := by decide +kernel
theorem dL_law_770 : decode cL_law 770 = .ok (.iload 6, 2) := by decide +kernel
theorem dL_law_772 : decode cL_law 772 = .ok (.i2l, 1) := by decide +kernel
theorem dL_law_773 : decode cL_law 773 = .ok (.lcmp, 1) := by decide +kernel
theorem dL_law_774 : decode cL_law 774 = .ok (.ifCond .eq 5, 3) := by decide +kernel
theorem dL_law_777 : decode cL_law 777 = .ok (.iconst 0, 1) := by decide +kernel
theorem dL_law_778 : decode cL_law 778 = .ok (.ireturn, 1) := by decide +kernel
theorem dL_law_779 : decode cL_law 779 = .ok (.goto 765, 3) := by decide +kernel
theorem dL_law_782 : decode cL_law 782 = .ok (.aload_n 1, 1) := by decide +kernel
theorem dL_law_783 : decode cL_law 783 = .ok (.aload_n 0, 1) := by decide +kernel
theorem dL_law_784 : decode cL_law 784 = .ok (.iload 4, 2) := by decide +kernel
theorem dL_law_786 : decode cL_law 786 = .ok (.iconst 1, 1) := by decide +kernel
theorem dL_law_787 : decode cL_law 787 = .ok (.iadd, 1) := by decide +kernel
theorem dL_law_788 : decode cL_law 788 = .ok (.iaload, 1) := by decide +kernel
theorem dL_law_789 : decode cL_law 789 = .ok (.aload_n 0, 1) := by decide +kernel
theorem dL_law_790 : decode cL_law 790 = .ok (.iload 4, 2) := by decide +kernel
theorem dL_law_792 : decode cL_law 792 = .ok (.iconst 2, 1) := by decide +kernel
theorem dL_law_793 : decode cL_law 793 = .ok (.iadd, 1) := by decide +kernel
theorem dL_law_794 : decode cL_law 794 = .ok (.iaload, 1) := by decide +kernel
theorem dL_law_795 : decode cL_law 795 = .ok (.aload_n 3, 1) := by decide +kernel
theorem dL_law_796 : decode cL_law 796 = .ok (.invokestatic 119, 3) := by decide +kernel
theorem dL_law_799 : decode cL_law 799 = .ok (.istore 5, 2) := by decide +kernel
theorem dL_law_801 : decode cL_law 801 = .ok (.aload_n 2, 1) := by decide +kernel
theorem dL_law_802 : decode cL_law 802 = .ok (.aload_n 0, 1) := by decide +kernel
theorem dL_law_803 : decode cL_law 803 = .ok (.iload 4, 2) := by decide +kernel
theorem dL_law_805 : decode cL_law 805 = .ok (.iconst 1, 1) := by decide +kernel
theorem dL_law_806 : decode cL_law 806 = .ok (.iadd, 1) := by decide +kernel
theorem dL_law_807 : decode cL_law 807 = .ok (.iaload, 1) := by decide +kernel
theorem dL_law_808 : decode cL_law 808 = .ok (.aload_n 0, 1) := by decide +kernel
theorem dL_law_809 : decode cL_law 809 = .ok (.iload 4, 2) := by decide +kernel
theorem dL_law_811 : decode cL_law 811 = .ok (.iconst 2, 1) := by decide +kernel
theorem dL_law_812 : decode cL_law 812 = .ok (.iadd, 1) := by decide +kernel
theorem dL_law_813 : decode cL_law 813 = .ok (.iaload, 1) := by decide +kernel
theorem dL_law_814 : decode cL_law 814 = .ok (.invokevirtual 121, 3) := by decide +kernel
theorem dL_law_817 : decode cL_law 817 = .ok (.istore 6, 2) := by decide +kernel
theorem dL_law_819 : decode cL_law 819 = .ok (.aload_n 2, 1) := by decide +kernel
theorem dL_law_820 : decode cL_law 820 = .ok (.invokevirtual 89, 3) := by decide +kernel
theorem dL_law_823 : decode cL_law 823 = .ok (.iload 5, 2) := by decide +kernel
theorem dL_law_825 : decode cL_law 825 = .ok (.if_icmp .eq 5, 3) := by decide +kernel
theorem dL_law_828 : decode cL_law 828 = .ok (.iconst 0, 1) := by decide +kernel
theorem dL_law_829 : decode cL_law 829 = .ok (.ireturn, 1) := by decide +kernel
theorem dL_law_830 : decode cL_law 830 = .ok (.iload 5, 2) := by decide +kernel
theorem dL_law_832 : decode cL_law 832 = .ok (.ifCond .ne 15, 3) := by decide +kernel
theorem dL_law_835 : decode cL_law 835 = .ok (.aload_n 3, 1) := by decide +kernel
theorem dL_law_836 : decode cL_law 836 = .ok (.iconst 0, 1) := by decide +kernel
theorem dL_law_837 : decode cL_law 837 = .ok (.laload, 1) := by decide +kernel
theorem dL_law_838 : decode cL_law 838 = .ok (.iload 6, 2) := by decide +kernel
theorem dL_law_840 : decode cL_law 840 = .ok (.i2l, 1) := by decide +kernel
theorem dL_law_841 : decode cL_law 841 = .ok (.lcmp, 1) := by decide +kernel
theorem dL_law_842 : decode cL_law 842 = .ok (.ifCond .eq 5, 3) := by decide +kernel
theorem dL_law_845 : decode cL_law 845 = .ok (.iconst 0, 1) := by decide +kernel
theorem dL_law_846 : decode cL_law 846 = .ok (.ireturn, 1) := by decide +kernel
theorem dL_law_847 : decode cL_law 847 = .ok (.goto 697, 3) := by decide +kernel
theorem dL_law_850 : decode cL_law 850 = .ok (.aload_n 1, 1) := by decide +kernel
theorem dL_law_851 : decode cL_law 851 = .ok (.aload_n 0, 1) := by decide +kernel
theorem dL_law_852 : decode cL_law 852 = .ok (.iload 4, 2) := by decide +kernel
theorem dL_law_854 : decode cL_law 854 = .ok (.iconst 1, 1) := by decide +kernel
theorem dL_law_855 : decode cL_law 855 = .ok (.iadd, 1) := by decide +kernel
theorem dL_law_856 : decode cL_law 856 = .ok (.iaload, 1) := by decide +kernel
theorem dL_law_857 : decode cL_law 857 = .ok (.aload_n 0, 1) := by decide +kernel
theorem dL_law_858 : decode cL_law 858 = .ok (.iload 4, 2) := by decide +kernel
theorem dL_law_860 : decode cL_law 860 = .ok (.iconst 2, 1) := by decide +kernel
theorem dL_law_861 : decode cL_law 861 = .ok (.iadd, 1) := by decide +kernel
theorem dL_law_862 : decode cL_law 862 = .ok (.iaload, 1) := by decide +kernel
theorem dL_law_863 : decode cL_law 863 = .ok (.aload_n 3, 1) := by decide +kernel
theorem dL_law_864 : decode cL_law 864 = .ok (.invokestatic 122, 3) := by decide +kernel
theorem dL_law_867 : decode cL_law 867 = .ok (.istore 5, 2) := by decide +kernel
theorem dL_law_869 : decode cL_law 869 = .ok (.aload_n 2, 1) := by decide +kernel
theorem dL_law_870 : decode cL_law 870 = .ok (.aload_n 0, 1) := by decide +kernel
theorem dL_law_871 : decode cL_law 871 = .ok (.iload 4, 2) := by decide +kernel
theorem dL_law_873 : decode cL_law 873 = .ok (.iconst 1, 1) := by decide +kernel
theorem dL_law_874 : decode cL_law 874 = .ok (.iadd, 1) := by decide +kernel
theorem dL_law_875 : decode cL_law 875 = .ok (.iaload, 1) := by decide +kernel
theorem dL_law_876 : decode cL_law 876 = .ok (.aload_n 0, 1) := by decide +kernel
theorem dL_law_877 : decode cL_law 877 = .ok (.iload 4, 2) := by decide +kernel
theorem dL_law_879 : decode cL_law 879 = .ok (.iconst 2, 1) := by decide +kernel
theorem dL_law_880 : decode cL_law 880 = .ok (.iadd, 1) := by decide +kernel
theorem dL_law_881 : decode cL_law 881 = .ok (.iaload, 1) := by decide +kernel
theorem dL_law_882 : decode cL_law 882 = .ok (.invokevirtual 124, 3) := by decide +kernel
theorem dL_law_885 : decode cL_law 885 = .ok (.istore 6, 2) := by decide +kernel
theorem dL_law_887 : decode cL_law 887 = .ok (.aload_n 2, 1) := by decide +kernel
theorem dL_law_888 : decode cL_law 888 = .ok (.invokevirtual 89, 3) := by decide +kernel
theorem dL_law_891 : decode cL_law 891 = .ok (.iload 5, 2) := by decide +kernel
theorem dL_law_893 : decode cL_law 893 = .ok (.if_icmp .eq 5, 3) := by decide +kernel
theorem dL_law_896 : decode cL_law 896 = .ok (.iconst 0, 1) := by decide +kernel
theorem dL_law_897 : decode cL_law 897 = .ok (.ireturn, 1) := by decide +kernel
theorem dL_law_898 : decode cL_law 898 = .ok (.iload 5, 2) := by decide +kernel
theorem dL_law_900 : decode cL_law 900 = .ok (.ifCond .ne 15, 3) := by decide +kernel
theorem dL_law_903 : decode cL_law 903 = .ok (.aload_n 3, 1) := by decide +kernel
theorem dL_law_904 : decode cL_law 904 = .ok (.iconst 0, 1) := by decide +kernel
theorem dL_law_905 : decode cL_law 905 = .ok (.laload, 1) := by decide +kernel
theorem dL_law_906 : decode cL_law 906 = .ok (.iload 6, 2) := by decide +kernel
theorem dL_law_908 : decode cL_law 908 = .ok (.i2l, 1) := by decide +kernel
theorem dL_law_909 : decode cL_law 909 = .ok (.lcmp, 1) := by decide +kernel
theorem dL_law_910 : decode cL_law 910 = .ok (.ifCond .eq 5, 3) := by decide +kernel
theorem dL_law_913 : decode cL_law 913 = .ok (.iconst 0, 1) := by decide +kernel
theorem dL_law_914 : decode cL_law 914 = .ok (.ireturn, 1) := by decide +kernel
theorem dL_law_915 : decode cL_law 915 = .ok (.goto 629, 3) := by decide +kernel
theorem dL_law_918 : decode cL_law 918 = .ok (.aload_n 1, 1) := by decide +kernel
theorem dL_law_919 : decode cL_law 919 = .ok (.aload_n 0, 1) := by decide +kernel
theorem dL_law_920 : decode cL_law 920 = .ok (.iload 4, 2) := by decide +kernel
theorem dL_law_922 : decode cL_law 922 = .ok (.iconst 1, 1) := by decide +kernel
theorem dL_law_923 : decode cL_law 923 = .ok (.iadd, 1) := by decide +kernel
theorem dL_law_924 : decode cL_law 924 = .ok (.iaload, 1) := by decide +kernel
theorem dL_law_925 : decode cL_law 925 = .ok (.aload_n 3, 1) := by decide +kernel
theorem dL_law_926 : decode cL_law 926 = .ok (.invokestatic 125, 3) := by decide +kernel
theorem dL_law_929 : decode cL_law 929 = .ok (.istore 5, 2) := by decide +kernel
theorem dL_law_931 : decode cL_law 931 = .ok (.aload_n 2, 1) := by decide +kernel
theorem dL_law_932 : decode cL_law 932 = .ok (.aload_n 0, 1) := by decide +kernel
theorem dL_law_933 : decode cL_law 933 = .ok (.iload 4, 2) := by decide +kernel
theorem dL_law_935 : decode cL_law 935 = .ok (.iconst 1, 1) := by decide +kernel
theorem dL_law_936 : decode cL_law 936 = .ok (.iadd, 1) := by decide +kernel
theorem dL_law_937 : decode cL_law 937 = .ok (.iaload, 1) := by decide +kernel
theorem dL_law_938 : decode cL_law 938 = .ok (.invokevirtual 127, 3) := by decide +kernel
theorem dL_law_941 : decode cL_law 941 = .ok (.istore 6, 2) := by decide +kernel
theorem dL_law_943 : decode cL_law 943 = .ok (.aload_n 2, 1) := by decide +kernel
theorem dL_law_944 : decode cL_law 944 = .ok (.invokevirtual 89, 3) := by decide +kernel
theorem dL_law_947 : decode cL_law 947 = .ok (.iload 5, 2) := by decide +kernel
theorem dL_law_949 : decode cL_law 949 = .ok (.if_icmp .eq 5, 3) := by decide +kernel
theorem dL_law_952 : decode cL_law 952 = .ok (.iconst 0, 1) := by decide +kernel
theorem dL_law_953 : decode cL_law 953 = .ok (.ireturn, 1) := by decide +kernel
theorem dL_law_954 : decode cL_law 954 = .ok (.iload 5, 2) := by decide +kernel
theorem dL_law_956 : decode cL_law 956 = .ok (.ifCond .ne 15, 3) := by decide +kernel
theorem dL_law_959 : decode cL_law 959 = .ok (.aload_n 3, 1) := by decide +kernel
theorem dL_law_960 : decode cL_law 960 = .ok (.iconst 0, 1) := by decide +kernel
theorem dL_law_961 : decode cL_law 961 = .ok (.laload, 1) := by decide +kernel
theorem dL_law_962 : decode cL_law 962 = .ok (.iload 6, 2) := by decide +kernel
theorem dL_law_964 : decode cL_law 964 = .ok (.i2l, 1) := by decide +kernel
theorem dL_law_965 : decode cL_law 965 = .ok (.lcmp, 1) := by decide +kernel
theorem dL_law_966 : decode cL_law 966 = .ok (.ifCond .eq 5, 3) := by decide +kernel
theorem dL_law_969 : decode cL_law 969 = .ok (.iconst 0, 1) := by decide +kernel
theorem dL_law_970 : decode cL_law 970 = .ok (.ireturn, 1) := by decide +kernel
theorem dL_law_971 : decode cL_law 971 = .ok (.goto 573, 3) := by decide +kernel
theorem dL_law_974 : decode cL_law 974 = .ok (.aload_n 1, 1) := by decide +kernel
theorem dL_law_975 : decode cL_law 975 = .ok (.aload_n 0, 1) := by decide +kernel
theorem dL_law_976 : decode cL_law 976 = .ok (.iload 4, 2) := by decide +kernel
theorem dL_law_978 : decode cL_law 978 = .ok (.iconst 1, 1) := by decide +kernel
theorem dL_law_979 : decode cL_law 979 = .ok (.iadd, 1) := by decide +kernel
theorem dL_law_980 : decode cL_law 980 = .ok (.iaload, 1) := by decide +kernel
theorem dL_law_981 : decode cL_law 981 = .ok (.aload_n 3, 1) := by decide +kernel
theorem dL_law_982 : decode cL_law 982 = .ok (.invokestatic 128, 3) := by decide +kernel
theorem dL_law_985 : decode cL_law 985 = .ok (.istore 5, 2) := by decide +kernel
theorem dL_law_987 : decode cL_law 987 = .ok (.aload_n 2, 1) := by decide +kernel
theorem dL_law_988 : decode cL_law 988 = .ok (.aload_n 0, 1) := by decide +kernel
theorem dL_law_989 : decode cL_law 989 = .ok (.iload 4, 2) := by decide +kernel
theorem dL_law_991 : decode cL_law 991 = .ok (.iconst 1, 1) := by decide +kernel
theorem dL_law_992 : decode cL_law 992 = .ok (.iadd, 1) := by decide +kernel
theorem dL_law_993 : decode cL_law 993 = .ok (.iaload, 1) := by decide +kernel
theorem dL_law_994 : decode cL_law 994 = .ok (.invokevirtual 130, 3) := by decide +kernel
theorem dL_law_997 : decode cL_law 997 = .ok (.istore 6, 2) := by decide +kernel
theorem dL_law_999 : decode cL_law 999 = .ok (.aload_n 2, 1) := by decide +kernel
theorem dL_law_1000 : decode cL_law 1000 = .ok (.invokevirtual 89, 3) := by decide +kernel
theorem dL_law_1003 : decode cL_law 1003 = .ok (.iload 5, 2) := by decide +kernel
theorem dL_law_1005 : decode cL_law 1005 = .ok (.if_icmp .eq 5, 3) := by decide +kernel
theorem dL_law_1008 : decode cL_law 1008 = .ok (.iconst 0, 1) := by decide +kernel
theorem dL_law_1009 : decode cL_law 1009 = .ok (.ireturn, 1) := by decide +kernel
theorem dL_law_1010 : decode cL_law 1010 = .ok (.iload 5, 2) := by decide +kernel
theorem dL_law_1012 : decode cL_law 1012 = .ok (.ifCond .ne 15, 3) := by decide +kernel
theorem dL_law_1015 : decode cL_law 1015 = .ok (.aload_n 3, 1) := by decide +kernel
theorem dL_law_1016 : decode cL_law 1016 = .ok (.iconst 0, 1) := by decide +kernel
theorem dL_law_1017 : decode cL_law 1017 = .ok (.laload, 1) := by decide +kernel
theorem dL_law_1018 : decode cL_law 1018 = .ok (.iload 6, 2) := by decide +kernel
theorem dL_law_1020 : decode cL_law 1020 = .ok (.i2l, 1) := by decide +kernel
theorem dL_law_1021 : decode cL_law 1021 = .ok (.lcmp, 1) := by decide +kernel
theorem dL_law_1022 : decode cL_law 1022 = .ok (.ifCond .eq 5, 3) := by decide +kernel
theorem dL_law_1025 : decode cL_law 1025 = .ok (.iconst 0, 1) := by decide +kernel
theorem dL_law_1026 : decode cL_law 1026 = .ok (.ireturn, 1) := by decide +kernel
theorem dL_law_1027 : decode cL_law 1027 = .ok (.goto 517, 3) := by decide +kernel
theorem dL_law_1030 : decode cL_law 1030 = .ok (.aload_n 1, 1) := by decide +kernel
theorem dL_law_1031 : decode cL_law 1031 = .ok (.aload_n 0, 1) := by decide +kernel
theorem dL_law_1032 : decode cL_law 1032 = .ok (.iload 4, 2) := by decide +kernel
theorem dL_law_1034 : decode cL_law 1034 = .ok (.iconst 1, 1) := by decide +kernel
theorem dL_law_1035 : decode cL_law 1035 = .ok (.iadd, 1) := by decide +kernel
theorem dL_law_1036 : decode cL_law 1036 = .ok (.iaload, 1) := by decide +kernel
theorem dL_law_1037 : decode cL_law 1037 = .ok (.aload_n 0, 1) := by decide +kernel
theorem dL_law_1038 : decode cL_law 1038 = .ok (.iload 4, 2) := by decide +kernel
theorem dL_law_1040 : decode cL_law 1040 = .ok (.iconst 2, 1) := by decide +kernel
theorem dL_law_1041 : decode cL_law 1041 = .ok (.iadd, 1) := by decide +kernel
theorem dL_law_1042 : decode cL_law 1042 = .ok (.iaload, 1) := by decide +kernel
theorem dL_law_1043 : decode cL_law 1043 = .ok (.aload_n 3, 1) := by decide +kernel
theorem dL_law_1044 : decode cL_law 1044 = .ok (.invokestatic 131, 3) := by decide +kernel
theorem dL_law_1047 : decode cL_law 1047 = .ok (.istore 5, 2) := by decide +kernel
theorem dL_law_1049 : decode cL_law 1049 = .ok (.aload_n 2, 1) := by decide +kernel
theorem dL_law_1050 : decode cL_law 1050 = .ok (.aload_n 0, 1) := by decide +kernel
theorem dL_law_1051 : decode cL_law 1051 = .ok (.iload 4, 2) := by decide +kernel
theorem dL_law_1053 : decode cL_law 1053 = .ok (.iconst 1, 1) := by decide +kernel
theorem dL_law_1054 : decode cL_law 1054 = .ok (.iadd, 1) := by decide +kernel
theorem dL_law_1055 : decode cL_law 1055 = .ok (.iaload, 1) := by decide +kernel
theorem dL_law_1056 : decode cL_law 1056 = .ok (.aload_n 0, 1) := by decide +kernel
theorem dL_law_1057 : decode cL_law 1057 = .ok (.iload 4, 2) := by decide +kernel
theorem dL_law_1059 : decode cL_law 1059 = .ok (.iconst 2, 1) := by decide +kernel
theorem dL_law_1060 : decode cL_law 1060 = .ok (.iadd, 1) := by decide +kernel
theorem dL_law_1061 : decode cL_law 1061 = .ok (.iaload, 1) := by decide +kernel
theorem dL_law_1062 : decode cL_law 1062 = .ok (.invokevirtual 133, 3) := by decide +kernel
theorem dL_law_1065 : decode cL_law 1065 = .ok (.istore 6, 2) := by decide +kernel
theorem dL_law_1067 : decode cL_law 1067 = .ok (.aload_n 2, 1) := by decide +kernel
theorem dL_law_1068 : decode cL_law 1068 = .ok (.invokevirtual 89, 3) := by decide +kernel
theorem dL_law_1071 : decode cL_law 1071 = .ok (.iload 5, 2) := by decide +kernel
theorem dL_law_1073 : decode cL_law 1073 = .ok (.if_icmp .eq 5, 3) := by decide +kernel
theorem dL_law_1076 : decode cL_law 1076 = .ok (.iconst 0, 1) := by decide +kernel
theorem dL_law_1077 : decode cL_law 1077 = .ok (.ireturn, 1) := by decide +kernel
theorem dL_law_1078 : decode cL_law 1078 = .ok (.iload 5, 2) := by decide +kernel
theorem dL_law_1080 : decode cL_law 1080 = .ok (.ifCond .ne 15, 3) := by decide +kernel
theorem dL_law_1083 : decode cL_law 1083 = .ok (.aload_n 3, 1) := by decide +kernel
theorem dL_law_1084 : decode cL_law 1084 = .ok (.iconst 0, 1) := by decide +kernel
theorem dL_law_1085 : decode cL_law 1085 = .ok (.laload, 1) := by decide +kernel
theorem dL_law_1086 : decode cL_law 1086 = .ok (.iload 6, 2) := by decide +kernel
theorem dL_law_1088 : decode cL_law 1088 = .ok (.i2l, 1) := by decide +kernel
theorem dL_law_1089 : decode cL_law 1089 = .ok (.lcmp, 1) := by decide +kernel
theorem dL_law_1090 : decode cL_law 1090 = .ok (.ifCond .eq 5, 3) := by decide +kernel
theorem dL_law_1093 : decode cL_law 1093 = .ok (.iconst 0, 1) := by decide +kernel
theorem dL_law_1094 : decode cL_law 1094 = .ok (.ireturn, 1) := by decide +kernel
theorem dL_law_1095 : decode cL_law 1095 = .ok (.goto 449, 3) := by decide +kernel
theorem dL_law_1098 : decode cL_law 1098 = .ok (.aload_n 1, 1) := by decide +kernel
theorem dL_law_1099 : decode cL_law 1099 = .ok (.aload_n 0, 1) := by decide +kernel
theorem dL_law_1100 : decode cL_law 1100 = .ok (.iload 4, 2) := by decide +kernel
theorem dL_law_1102 : decode cL_law 1102 = .ok (.iconst 1, 1) := by decide +kernel
theorem dL_law_1103 : decode cL_law 1103 = .ok (.iadd, 1) := by decide +kernel
theorem dL_law_1104 : decode cL_law 1104 = .ok (.iaload, 1) := by decide +kernel
theorem dL_law_1105 : decode cL_law 1105 = .ok (.aload_n 0, 1) := by decide +kernel
theorem dL_law_1106 : decode cL_law 1106 = .ok (.iload 4, 2) := by decide +kernel
theorem dL_law_1108 : decode cL_law 1108 = .ok (.iconst 2, 1) := by decide +kernel
theorem dL_law_1109 : decode cL_law 1109 = .ok (.iadd, 1) := by decide +kernel
theorem dL_law_1110 : decode cL_law 1110 = .ok (.iaload, 1) := by decide +kernel
theorem dL_law_1111 : decode cL_law 1111 = .ok (.aload_n 3, 1) := by decide +kernel
theorem dL_law_1112 : decode cL_law 1112 = .ok (.invokestatic 134, 3) := by decide +kernel
theorem dL_law_1115 : decode cL_law 1115 = .ok (.istore 5, 2) := by decide +kernel
theorem dL_law_1117 : decode cL_law 1117 = .ok (.aload_n 2, 1) := by decide +kernel
theorem dL_law_1118 : decode cL_law 1118 = .ok (.aload_n 0, 1) := by decide +kernel
theorem dL_law_1119 : decode cL_law 1119 = .ok (.iload 4, 2) := by decide +kernel
theorem dL_law_1121 : decode cL_law 1121 = .ok (.iconst 1, 1) := by decide +kernel
theorem dL_law_1122 : decode cL_law 1122 = .ok (.iadd, 1) := by decide +kernel
theorem dL_law_1123 : decode cL_law 1123 = .ok (.iaload, 1) := by decide +kernel
theorem dL_law_1124 : decode cL_law 1124 = .ok (.aload_n 0, 1) := by decide +kernel
theorem dL_law_1125 : decode cL_law 1125 = .ok (.iload 4, 2) := by decide +kernel
theorem dL_law_1127 : decode cL_law 1127 = .ok (.iconst 2, 1) := by decide +kernel
theorem dL_law_1128 : decode cL_law 1128 = .ok (.iadd, 1) := by decide +kernel
theorem dL_law_1129 : decode cL_law 1129 = .ok (.iaload, 1) := by decide +kernel
theorem dL_law_1130 : decode cL_law 1130 = .ok (.invokevirtual 136, 3) := by decide +kernel
theorem dL_law_1133 : decode cL_law 1133 = .ok (.istore 6, 2) := by decide +kernel
theorem dL_law_1135 : decode cL_law 1135 = .ok (.aload_n 2, 1) := by decide +kernel
theorem dL_law_1136 : decode cL_law 1136 = .ok (.invokevirtual 89, 3) := by decide +kernel
theorem dL_law_1139 : decode cL_law 1139 = .ok (.iload 5, 2) := by decide +kernel
theorem dL_law_1141 : decode cL_law 1141 = .ok (.if_icmp .eq 5, 3) := by decide +kernel
theorem dL_law_1144 : decode cL_law 1144 = .ok (.iconst 0, 1) := by decide +kernel
theorem dL_law_1145 : decode cL_law 1145 = .ok (.ireturn, 1) := by decide +kernel
theorem dL_law_1146 : decode cL_law 1146 = .ok (.iload 5, 2) := by decide +kernel
theorem dL_law_1148 : decode cL_law 1148 = .ok (.ifCond .ne 15, 3) := by decide +kernel
theorem dL_law_1151 : decode cL_law 1151 = .ok (.aload_n 3, 1) := by decide +kernel
theorem dL_law_1152 : decode cL_law 1152 = .ok (.iconst 0, 1) := by decide +kernel
theorem dL_law_1153 : decode cL_law 1153 = .ok (.laload, 1) := by decide +kernel
theorem dL_law_1154 : decode cL_law 1154 = .ok (.iload 6, 2) := by decide +kernel
theorem dL_law_1156 : decode cL_law 1156 = .ok (.i2l, 1) := by decide +kernel
theorem dL_law_1157 : decode cL_law 1157 = .ok (.lcmp, 1) := by decide +kernel
theorem dL_law_1158 : decode cL_law 1158 = .ok (.ifCond .eq 5, 3) := by decide +kernel
theorem dL_law_1161 : decode cL_law 1161 = .ok (.iconst 0, 1) := by decide +kernel
theorem dL_law_1162 : decode cL_law 1162 = .ok (.ireturn, 1) := by decide +kernel
theorem dL_law_1163 : decode cL_law 1163 = .ok (.goto 381, 3) := by decide +kernel
theorem dL_law_1166 : decode cL_law 1166 = .ok (.aload_n 1, 1) := by decide +kernel
theorem dL_law_1167 : decode cL_law 1167 = .ok (.aload_n 0, 1) := by decide +kernel
theorem dL_law_1168 : decode cL_law 1168 = .ok (.iload 4, 2) := by decide +kernel
theorem dL_law_1170 : decode cL_law 1170 = .ok (.iconst 1, 1) := by decide +kernel
theorem dL_law_1171 : decode cL_law 1171 = .ok (.iadd, 1) := by decide +kernel
theorem dL_law_1172 : decode cL_law 1172 = .ok (.iaload, 1) := by decide +kernel
theorem dL_law_1173 : decode cL_law 1173 = .ok (.aload_n 3, 1) := by decide +kernel
theorem dL_law_1174 : decode cL_law 1174 = .ok (.invokestatic 137, 3) := by decide +kernel
theorem dL_law_1177 : decode cL_law 1177 = .ok (.istore 5, 2) := by decide +kernel
theorem dL_law_1179 : decode cL_law 1179 = .ok (.aload_n 2, 1) := by decide +kernel
theorem dL_law_1180 : decode cL_law 1180 = .ok (.aload_n 0, 1) := by decide +kernel
theorem dL_law_1181 : decode cL_law 1181 = .ok (.iload 4, 2) := by decide +kernel
theorem dL_law_1183 : decode cL_law 1183 = .ok (.iconst 1, 1) := by decide +kernel
theorem dL_law_1184 : decode cL_law 1184 = .ok (.iadd, 1) := by decide +kernel
theorem dL_law_1185 : decode cL_law 1185 = .ok (.iaload, 1) := by decide +kernel
theorem dL_law_1186 : decode cL_law 1186 = .ok (.invokevirtual 139, 3) := by decide +kernel
theorem dL_law_1189 : decode cL_law 1189 = .ok (.istore 6, 2) := by decide +kernel
theorem dL_law_1191 : decode cL_law 1191 = .ok (.aload_n 2, 1) := by decide +kernel
theorem dL_law_1192 : decode cL_law 1192 = .ok (.invokevirtual 89, 3) := by decide +kernel
theorem dL_law_1195 : decode cL_law 1195 = .ok (.iload 5, 2) := by decide +kernel
theorem dL_law_1197 : decode cL_law 1197 = .ok (.if_icmp .eq 5, 3) := by decide +kernel
theorem dL_law_1200 : decode cL_law 1200 = .ok (.iconst 0, 1) := by decide +kernel
theorem dL_law_1201 : decode cL_law 1201 = .ok (.ireturn, 1) := by decide +kernel
theorem dL_law_1202 : decode cL_law 1202 = .ok (.iload 5, 2) := by decide +kernel
theorem dL_law_1204 : decode cL_law 1204 = .ok (.ifCond .ne 15, 3) := by decide +kernel
theorem dL_law_1207 : decode cL_law 1207 = .ok (.aload_n 3, 1) := by decide +kernel
theorem dL_law_1208 : decode cL_law 1208 = .ok (.iconst 0, 1) := by decide +kernel
theorem dL_law_1209 : decode cL_law 1209 = .ok (.laload, 1) := by decide +kernel
theorem dL_law_1210 : decode cL_law 1210 = .ok (.iload 6, 2) := by decide +kernel
theorem dL_law_1212 : decode cL_law 1212 = .ok (.i2l, 1) := by decide +kernel
theorem dL_law_1213 : decode cL_law 1213 = .ok (.lcmp, 1) := by decide +kernel
theorem dL_law_1214 : decode cL_law 1214 = .ok (.ifCond .eq 5, 3) := by decide +kernel
theorem dL_law_1217 : decode cL_law 1217 = .ok (.iconst 0, 1) := by decide +kernel
theorem dL_law_1218 : decode cL_law 1218 = .ok (.ireturn, 1) := by decide +kernel
theorem dL_law_1219 : decode cL_law 1219 = .ok (.goto 325, 3) := by decide +kernel
theorem dL_law_1222 : decode cL_law 1222 = .ok (.aload_n 1, 1) := by decide +kernel
theorem dL_law_1223 : decode cL_law 1223 = .ok (.invokevirtual 140, 3) := by decide +kernel
theorem dL_law_1226 : decode cL_law 1226 = .ok (.dstore 5, 2) := by decide +kernel
theorem dL_law_1228 : decode cL_law 1228 = .ok (.aload_n 2, 1) := by decide +kernel
theorem dL_law_1229 : decode cL_law 1229 = .ok (.invokevirtual 144, 3) := by decide +kernel
theorem dL_law_1232 : decode cL_law 1232 = .ok (.dstore 7, 2) := by decide +kernel
theorem dL_law_1234 : decode cL_law 1234 = .ok (.dload 5, 2) := by decide +kernel
theorem dL_law_1236 : decode cL_law 1236 = .ok (.dload 7, 2) := by decide +kernel
theorem dL_law_1238 : decode cL_law 1238 = .ok (.dcmp .l, 1) := by decide +kernel
theorem dL_law_1239 : decode cL_law 1239 = .ok (.ifCond .eq 21, 3) := by decide +kernel
theorem dL_law_1242 : decode cL_law 1242 = .ok (.dload 5, 2) := by decide +kernel
theorem dL_law_1244 : decode cL_law 1244 = .ok (.dload 5, 2) := by decide +kernel
theorem dL_law_1246 : decode cL_law 1246 = .ok (.dcmp .l, 1) := by decide +kernel
theorem dL_law_1247 : decode cL_law 1247 = .ok (.ifCond .eq 11, 3) := by decide +kernel
theorem dL_law_1250 : decode cL_law 1250 = .ok (.dload 7, 2) := by decide +kernel
theorem dL_law_1252 : decode cL_law 1252 = .ok (.dload 7, 2) := by decide +kernel
theorem dL_law_1254 : decode cL_law 1254 = .ok (.dcmp .l, 1) := by decide +kernel
theorem dL_law_1255 : decode cL_law 1255 = .ok (.ifCond .ne 5, 3) := by decide +kernel
theorem dL_law_1258 : decode cL_law 1258 = .ok (.iconst 0, 1) := by decide +kernel
theorem dL_law_1259 : decode cL_law 1259 = .ok (.ireturn, 1) := by decide +kernel
theorem dL_law_1260 : decode cL_law 1260 = .ok (.goto 284, 3) := by decide +kernel
theorem dL_law_1263 : decode cL_law 1263 = .ok (.aload_n 1, 1) := by decide +kernel
theorem dL_law_1264 : decode cL_law 1264 = .ok (.aload_n 0, 1) := by decide +kernel
theorem dL_law_1265 : decode cL_law 1265 = .ok (.iload 4, 2) := by decide +kernel
theorem dL_law_1267 : decode cL_law 1267 = .ok (.iconst 1, 1) := by decide +kernel
theorem dL_law_1268 : decode cL_law 1268 = .ok (.iadd, 1) := by decide +kernel
theorem dL_law_1269 : decode cL_law 1269 = .ok (.iaload, 1) := by decide +kernel
theorem dL_law_1270 : decode cL_law 1270 = .ok (.aload_n 0, 1) := by decide +kernel
theorem dL_law_1271 : decode cL_law 1271 = .ok (.iload 4, 2) := by decide +kernel
theorem dL_law_1273 : decode cL_law 1273 = .ok (.iconst 2, 1) := by decide +kernel
theorem dL_law_1274 : decode cL_law 1274 = .ok (.iadd, 1) := by decide +kernel
theorem dL_law_1275 : decode cL_law 1275 = .ok (.iaload, 1) := by decide +kernel
theorem dL_law_1276 : decode cL_law 1276 = .ok (.aload_n 3, 1) := by decide +kernel
theorem dL_law_1277 : decode cL_law 1277 = .ok (.invokestatic 145, 3) := by decide +kernel
theorem dL_law_1280 : decode cL_law 1280 = .ok (.istore 5, 2) := by decide +kernel
theorem dL_law_1282 : decode cL_law 1282 = .ok (.aload_n 2, 1) := by decide +kernel
theorem dL_law_1283 : decode cL_law 1283 = .ok (.aload_n 0, 1) := by decide +kernel
theorem dL_law_1284 : decode cL_law 1284 = .ok (.iload 4, 2) := by decide +kernel
theorem dL_law_1286 : decode cL_law 1286 = .ok (.iconst 1, 1) := by decide +kernel
theorem dL_law_1287 : decode cL_law 1287 = .ok (.iadd, 1) := by decide +kernel
theorem dL_law_1288 : decode cL_law 1288 = .ok (.iaload, 1) := by decide +kernel
theorem dL_law_1289 : decode cL_law 1289 = .ok (.aload_n 0, 1) := by decide +kernel
theorem dL_law_1290 : decode cL_law 1290 = .ok (.iload 4, 2) := by decide +kernel
theorem dL_law_1292 : decode cL_law 1292 = .ok (.iconst 2, 1) := by decide +kernel
theorem dL_law_1293 : decode cL_law 1293 = .ok (.iadd, 1) := by decide +kernel
theorem dL_law_1294 : decode cL_law 1294 = .ok (.iaload, 1) := by decide +kernel
theorem dL_law_1295 : decode cL_law 1295 = .ok (.invokevirtual 147, 3) := by decide +kernel
theorem dL_law_1298 : decode cL_law 1298 = .ok (.istore 6, 2) := by decide +kernel
theorem dL_law_1300 : decode cL_law 1300 = .ok (.aload_n 2, 1) := by decide +kernel
theorem dL_law_1301 : decode cL_law 1301 = .ok (.invokevirtual 89, 3) := by decide +kernel
theorem dL_law_1304 : decode cL_law 1304 = .ok (.iload 5, 2) := by decide +kernel
theorem dL_law_1306 : decode cL_law 1306 = .ok (.if_icmp .eq 5, 3) := by decide +kernel
theorem dL_law_1309 : decode cL_law 1309 = .ok (.iconst 0, 1) := by decide +kernel
theorem dL_law_1310 : decode cL_law 1310 = .ok (.ireturn, 1) := by decide +kernel
theorem dL_law_1311 : decode cL_law 1311 = .ok (.iload 5, 2) := by decide +kernel
theorem dL_law_1313 : decode cL_law 1313 = .ok (.ifCond .ne 15, 3) := by decide +kernel
theorem dL_law_1316 : decode cL_law 1316 = .ok (.aload_n 3, 1) := by decide +kernel
theorem dL_law_1317 : decode cL_law 1317 = .ok (.iconst 0, 1) := by decide +kernel
theorem dL_law_1318 : decode cL_law 1318 = .ok (.laload, 1) := by decide +kernel
theorem dL_law_1319 : decode cL_law 1319 = .ok (.iload 6, 2) := by decide +kernel
theorem dL_law_1321 : decode cL_law 1321 = .ok (.i2l, 1) := by decide +kernel
theorem dL_law_1322 : decode cL_law 1322 = .ok (.lcmp, 1) := by decide +kernel
theorem dL_law_1323 : decode cL_law 1323 = .ok (.ifCond .eq 5, 3) := by decide +kernel
theorem dL_law_1326 : decode cL_law 1326 = .ok (.iconst 0, 1) := by decide +kernel
theorem dL_law_1327 : decode cL_law 1327 = .ok (.ireturn, 1) := by decide +kernel
theorem dL_law_1328 : decode cL_law 1328 = .ok (.goto 216, 3) := by decide +kernel
theorem dL_law_1331 : decode cL_law 1331 = .ok (.aload_n 1, 1) := by decide +kernel
theorem dL_law_1332 : decode cL_law 1332 = .ok (.aload_n 0, 1) := by decide +kernel
theorem dL_law_1333 : decode cL_law 1333 = .ok (.iload 4, 2) := by decide +kernel
theorem dL_law_1335 : decode cL_law 1335 = .ok (.iconst 1, 1) := by decide +kernel
theorem dL_law_1336 : decode cL_law 1336 = .ok (.iadd, 1) := by decide +kernel
theorem dL_law_1337 : decode cL_law 1337 = .ok (.iaload, 1) := by decide +kernel
theorem dL_law_1338 : decode cL_law 1338 = .ok (.aload_n 0, 1) := by decide +kernel
theorem dL_law_1339 : decode cL_law 1339 = .ok (.iload 4, 2) := by decide +kernel
theorem dL_law_1341 : decode cL_law 1341 = .ok (.iconst 2, 1) := by decide +kernel
theorem dL_law_1342 : decode cL_law 1342 = .ok (.iadd, 1) := by decide +kernel
theorem dL_law_1343 : decode cL_law 1343 = .ok (.iaload, 1) := by decide +kernel
theorem dL_law_1344 : decode cL_law 1344 = .ok (.aload_n 3, 1) := by decide +kernel
theorem dL_law_1345 : decode cL_law 1345 = .ok (.invokestatic 148, 3) := by decide +kernel
theorem dL_law_1348 : decode cL_law 1348 = .ok (.istore 5, 2) := by decide +kernel
theorem dL_law_1350 : decode cL_law 1350 = .ok (.aload_n 2, 1) := by decide +kernel
theorem dL_law_1351 : decode cL_law 1351 = .ok (.aload_n 0, 1) := by decide +kernel
theorem dL_law_1352 : decode cL_law 1352 = .ok (.iload 4, 2) := by decide +kernel
theorem dL_law_1354 : decode cL_law 1354 = .ok (.iconst 1, 1) := by decide +kernel
theorem dL_law_1355 : decode cL_law 1355 = .ok (.iadd, 1) := by decide +kernel
theorem dL_law_1356 : decode cL_law 1356 = .ok (.iaload, 1) := by decide +kernel
theorem dL_law_1357 : decode cL_law 1357 = .ok (.aload_n 0, 1) := by decide +kernel
theorem dL_law_1358 : decode cL_law 1358 = .ok (.iload 4, 2) := by decide +kernel
theorem dL_law_1360 : decode cL_law 1360 = .ok (.iconst 2, 1) := by decide +kernel
theorem dL_law_1361 : decode cL_law 1361 = .ok (.iadd, 1) := by decide +kernel
theorem dL_law_1362 : decode cL_law 1362 = .ok (.iaload, 1) := by decide +kernel
theorem dL_law_1363 : decode cL_law 1363 = .ok (.invokevirtual 150, 3) := by decide +kernel
theorem dL_law_1366 : decode cL_law 1366 = .ok (.istore 6, 2) := by decide +kernel
theorem dL_law_1368 : decode cL_law 1368 = .ok (.aload_n 2, 1) := by decide +kernel
theorem dL_law_1369 : decode cL_law 1369 = .ok (.invokevirtual 89, 3) := by decide +kernel
theorem dL_law_1372 : decode cL_law 1372 = .ok (.iload 5, 2) := by decide +kernel
theorem dL_law_1374 : decode cL_law 1374 = .ok (.if_icmp .eq 5, 3) := by decide +kernel
theorem dL_law_1377 : decode cL_law 1377 = .ok (.iconst 0, 1) := by decide +kernel
theorem dL_law_1378 : decode cL_law 1378 = .ok (.ireturn, 1) := by decide +kernel
theorem dL_law_1379 : decode cL_law 1379 = .ok (.iload 5, 2) := by decide +kernel
theorem dL_law_1381 : decode cL_law 1381 = .ok (.ifCond .ne 22, 3) := by decide +kernel
theorem dL_law_1384 : decode cL_law 1384 = .ok (.aload_n 3, 1) := by decide +kernel
theorem dL_law_1385 : decode cL_law 1385 = .ok (.iconst 0, 1) := by decide +kernel
theorem dL_law_1386 : decode cL_law 1386 = .ok (.laload, 1) := by decide +kernel
theorem dL_law_1387 : decode cL_law 1387 = .ok (.iload 6, 2) := by decide +kernel
theorem dL_law_1389 : decode cL_law 1389 = .ok (.ifCond .eq 7, 3) := by decide +kernel
theorem dL_law_1392 : decode cL_law 1392 = .ok (.lconst 1, 1) := by decide +kernel
theorem dL_law_1393 : decode cL_law 1393 = .ok (.goto 4, 3) := by decide +kernel
theorem dL_law_1396 : decode cL_law 1396 = .ok (.lconst 0, 1) := by decide +kernel
theorem dL_law_1397 : decode cL_law 1397 = .ok (.lcmp, 1) := by decide +kernel
theorem dL_law_1398 : decode cL_law 1398 = .ok (.ifCond .eq 5, 3) := by decide +kernel
theorem dL_law_1401 : decode cL_law 1401 = .ok (.iconst 0, 1) := by decide +kernel
theorem dL_law_1402 : decode cL_law 1402 = .ok (.ireturn, 1) := by decide +kernel
theorem dL_law_1403 : decode cL_law 1403 = .ok (.goto 141, 3) := by decide +kernel
theorem dL_law_1406 : decode cL_law 1406 = .ok (.aload_n 1, 1) := by decide +kernel
theorem dL_law_1407 : decode cL_law 1407 = .ok (.aload_n 0, 1) := by decide +kernel
theorem dL_law_1408 : decode cL_law 1408 = .ok (.iload 4, 2) := by decide +kernel
theorem dL_law_1410 : decode cL_law 1410 = .ok (.iconst 1, 1) := by decide +kernel
theorem dL_law_1411 : decode cL_law 1411 = .ok (.iadd, 1) := by decide +kernel
theorem dL_law_1412 : decode cL_law 1412 = .ok (.iaload, 1) := by decide +kernel
theorem dL_law_1413 : decode cL_law 1413 = .ok (.aload_n 3, 1) := by decide +kernel
theorem dL_law_1414 : decode cL_law 1414 = .ok (.invokestatic 151, 3) := by decide +kernel
theorem dL_law_1417 : decode cL_law 1417 = .ok (.istore 5, 2) := by decide +kernel
theorem dL_law_1419 : decode cL_law 1419 = .ok (.aload_n 2, 1) := by decide +kernel
theorem dL_law_1420 : decode cL_law 1420 = .ok (.aload_n 0, 1) := by decide +kernel
theorem dL_law_1421 : decode cL_law 1421 = .ok (.iload 4, 2) := by decide +kernel
theorem dL_law_1423 : decode cL_law 1423 = .ok (.iconst 1, 1) := by decide +kernel
theorem dL_law_1424 : decode cL_law 1424 = .ok (.iadd, 1) := by decide +kernel
theorem dL_law_1425 : decode cL_law 1425 = .ok (.iaload, 1) := by decide +kernel
theorem dL_law_1426 : decode cL_law 1426 = .ok (.invokevirtual 153, 3) := by decide +kernel
theorem dL_law_1429 : decode cL_law 1429 = .ok (.istore 6, 2) := by decide +kernel
theorem dL_law_1431 : decode cL_law 1431 = .ok (.aload_n 2, 1) := by decide +kernel
theorem dL_law_1432 : decode cL_law 1432 = .ok (.invokevirtual 89, 3) := by decide +kernel
theorem dL_law_1435 : decode cL_law 1435 = .ok (.iload 5, 2) := by decide +kernel
theorem dL_law_1437 : decode cL_law 1437 = .ok (.if_icmp .eq 5, 3) := by decide +kernel
theorem dL_law_1440 : decode cL_law 1440 = .ok (.iconst 0, 1) := by decide +kernel
theorem dL_law_1441 : decode cL_law 1441 = .ok (.ireturn, 1) := by decide +kernel
theorem dL_law_1442 : decode cL_law 1442 = .ok (.iload 5, 2) := by decide +kernel
theorem dL_law_1444 : decode cL_law 1444 = .ok (.ifCond .ne 15, 3) := by decide +kernel
theorem dL_law_1447 : decode cL_law 1447 = .ok (.aload_n 3, 1) := by decide +kernel
theorem dL_law_1448 : decode cL_law 1448 = .ok (.iconst 0, 1) := by decide +kernel
theorem dL_law_1449 : decode cL_law 1449 = .ok (.laload, 1) := by decide +kernel
theorem dL_law_1450 : decode cL_law 1450 = .ok (.iload 6, 2) := by decide +kernel
theorem dL_law_1452 : decode cL_law 1452 = .ok (.i2l, 1) := by decide +kernel
theorem dL_law_1453 : decode cL_law 1453 = .ok (.lcmp, 1) := by decide +kernel
theorem dL_law_1454 : decode cL_law 1454 = .ok (.ifCond .eq 5, 3) := by decide +kernel
theorem dL_law_1457 : decode cL_law 1457 = .ok (.iconst 0, 1) := by decide +kernel
theorem dL_law_1458 : decode cL_law 1458 = .ok (.ireturn, 1) := by decide +kernel
theorem dL_law_1459 : decode cL_law 1459 = .ok (.goto 85, 3) := by decide +kernel
theorem dL_law_1462 : decode cL_law 1462 = .ok (.aload_n 1, 1) := by decide +kernel
theorem dL_law_1463 : decode cL_law 1463 = .ok (.aload_n 0, 1) := by decide +kernel
theorem dL_law_1464 : decode cL_law 1464 = .ok (.iload 4, 2) := by decide +kernel
theorem dL_law_1466 : decode cL_law 1466 = .ok (.iconst 1, 1) := by decide +kernel
theorem dL_law_1467 : decode cL_law 1467 = .ok (.iadd, 1) := by decide +kernel
theorem dL_law_1468 : decode cL_law 1468 = .ok (.iaload, 1) := by decide +kernel
theorem dL_law_1469 : decode cL_law 1469 = .ok (.aload_n 0, 1) := by decide +kernel
theorem dL_law_1470 : decode cL_law 1470 = .ok (.iload 4, 2) := by decide +kernel
theorem dL_law_1472 : decode cL_law 1472 = .ok (.iconst 2, 1) := by decide +kernel
theorem dL_law_1473 : decode cL_law 1473 = .ok (.iadd, 1) := by decide +kernel
theorem dL_law_1474 : decode cL_law 1474 = .ok (.iaload, 1) := by decide +kernel
theorem dL_law_1475 : decode cL_law 1475 = .ok (.aload_n 3, 1) := by decide +kernel
theorem dL_law_1476 : decode cL_law 1476 = .ok (.invokestatic 154, 3) := by decide +kernel
theorem dL_law_1479 : decode cL_law 1479 = .ok (.istore 5, 2) := by decide +kernel
theorem dL_law_1481 : decode cL_law 1481 = .ok (.aload_n 2, 1) := by decide +kernel
theorem dL_law_1482 : decode cL_law 1482 = .ok (.aload_n 0, 1) := by decide +kernel
theorem dL_law_1483 : decode cL_law 1483 = .ok (.iload 4, 2) := by decide +kernel
theorem dL_law_1485 : decode cL_law 1485 = .ok (.iconst 1, 1) := by decide +kernel
theorem dL_law_1486 : decode cL_law 1486 = .ok (.iadd, 1) := by decide +kernel
theorem dL_law_1487 : decode cL_law 1487 = .ok (.iaload, 1) := by decide +kernel
theorem dL_law_1488 : decode cL_law 1488 = .ok (.aload_n 0, 1) := by decide +kernel
theorem dL_law_1489 : decode cL_law 1489 = .ok (.iload 4, 2) := by decide +kernel
theorem dL_law_1491 : decode cL_law 1491 = .ok (.iconst 2, 1) := by decide +kernel
theorem dL_law_1492 : decode cL_law 1492 = .ok (.iadd, 1) := by decide +kernel
theorem dL_law_1493 : decode cL_law 1493 = .ok (.iaload, 1) := by decide +kernel
theorem dL_law_1494 : decode cL_law 1494 = .ok (.invokevirtual 156, 3) := by decide +kernel
theorem dL_law_1497 : decode cL_law 1497 = .ok (.istore 6, 2) := by decide +kernel
theorem dL_law_1499 : decode cL_law 1499 = .ok (.aload_n 2, 1) := by decide +kernel
theorem dL_law_1500 : decode cL_law 1500 = .ok (.invokevirtual 89, 3) := by decide +kernel
theorem dL_law_1503 : decode cL_law 1503 = .ok (.iload 5, 2) := by decide +kernel
theorem dL_law_1505 : decode cL_law 1505 = .ok (.if_icmp .eq 5, 3) := by decide +kernel
theorem dL_law_1508 : decode cL_law 1508 = .ok (.iconst 0, 1) := by decide +kernel
theorem dL_law_1509 : decode cL_law 1509 = .ok (.ireturn, 1) := by decide +kernel
theorem dL_law_1510 : decode cL_law 1510 = .ok (.iload 5, 2) := by decide +kernel
theorem dL_law_1512 : decode cL_law 1512 = .ok (.ifCond .ne 15, 3) := by decide +kernel
theorem dL_law_1515 : decode cL_law 1515 = .ok (.aload_n 3, 1) := by decide +kernel
theorem dL_law_1516 : decode cL_law 1516 = .ok (.iconst 0, 1) := by decide +kernel
theorem dL_law_1517 : decode cL_law 1517 = .ok (.laload, 1) := by decide +kernel
theorem dL_law_1518 : decode cL_law 1518 = .ok (.iload 6, 2) := by decide +kernel
theorem dL_law_1520 : decode cL_law 1520 = .ok (.i2l, 1) := by decide +kernel
theorem dL_law_1521 : decode cL_law 1521 = .ok (.lcmp, 1) := by decide +kernel
theorem dL_law_1522 : decode cL_law 1522 = .ok (.ifCond .eq 5, 3) := by decide +kernel
theorem dL_law_1525 : decode cL_law 1525 = .ok (.iconst 0, 1) := by decide +kernel
theorem dL_law_1526 : decode cL_law 1526 = .ok (.ireturn, 1) := by decide +kernel
theorem dL_law_1527 : decode cL_law 1527 = .ok (.goto 17, 3) := by decide +kernel
theorem dL_law_1530 : decode cL_law 1530 = .ok (.aload_n 1, 1) := by decide +kernel
theorem dL_law_1531 : decode cL_law 1531 = .ok (.invokevirtual 157, 3) := by decide +kernel
theorem dL_law_1534 : decode cL_law 1534 = .ok (.aload_n 2, 1) := by decide +kernel
theorem dL_law_1535 : decode cL_law 1535 = .ok (.invokevirtual 161, 3) := by decide +kernel
theorem dL_law_1538 : decode cL_law 1538 = .ok (.lcmp, 1) := by decide +kernel
theorem dL_law_1539 : decode cL_law 1539 = .ok (.ifCond .eq 5, 3) := by decide +kernel
theorem dL_law_1542 : decode cL_law 1542 = .ok (.iconst 0, 1) := by decide +kernel
theorem dL_law_1543 : decode cL_law 1543 = .ok (.ireturn, 1) := by decide +kernel
theorem dL_law_1544 : decode cL_law 1544 = .ok (.iinc 4 7, 3) := by decide +kernel
theorem dL_law_1547 : decode cL_law 1547 = .ok (.goto (-1524), 3) := by decide +kernel
theorem dL_law_1550 : decode cL_law 1550 = .ok (.iconst 1, 1) := by decide +kernel
theorem dL_law_1551 : decode cL_law 1551 = .ok (.ireturn, 1) := by decide +kernel
end
section
/-! own tools: one list of words for all methods; contracts of one form; calls with the frame rule -/
def sx_pay (w : Cond) : Bool := goodWord w || (match w with | .fieldLinkNest .. => true | .methodLinkNest .. => true | _ => false)
def lw_all : List Cond := lw_tbl.filter sx_pay
theorem lw_all_tbl {w : Cond} (h : w ∈ lw_all) : w ∈ lw_tbl := (List.mem_filter.mp h).1
theorem sx_in {w : Cond} (i : Nat) (h : tables_1[i]? = some w) (hp : sx_pay w = true) : w ∈ lw_all := List.mem_filter.mpr ⟨List.mem_append_right _ (List.mem_of_getElem? h), hp⟩
theorem sx_inP {w : Cond} (i : Nat) (h : (k2_sels lw_privs)[i]? = some w) (hp : sx_pay w = true) : w ∈ lw_all := List.mem_filter.mpr ⟨List.mem_append_left _ (List.mem_of_getElem? h), hp⟩
set_option maxHeartbeats 4000000 in
theorem sx_pays {args : Array Value} {s : State} (ht : ∀ w ∈ lw_all, w.before args s = true) : ∀ w ∈ lw_all, ∀ (a' : Array Value) (U : State), s.WarmedH U.vm → w.before a' U = true := by
  intro w hw a' U hW
  have h1 := ht w hw
  have h2 := (List.mem_filter.mp hw).2
  by_cases hg : goodWord w = true
  · exact word_at hW (good_of_word hg) h1
  · cases w <;> first
      | exact va_Nw.use rfl (va_Nw.warmF hW (va_Nw.of rfl h1))
      | exact va_Nw.use rfl (va_Nw.warmM hW (va_Nw.of rfl h1))
      | (exfalso; simp only [sx_pay, Bool.or_false] at h2; exact hg h2)
def sx_ws (y : MethodName) (b : ByteArray) (mL : Nat) (ret : Option FieldType) : List Cond := Cond.code y b mL ret :: lw_all
/-- what is decided of a method once: its code's word, its class, its name, how many arguments -/
def sx_M (y : MethodName) (b : ByteArray) (mL : Nat) (ret : Option FieldType) (n : Nat) : Prop :=
  Cond.code y b mL ret ∈ lw_all ∧ Cond.initialized y.cls ∈ lw_all ∧ (y.cls ≠ "java/lang/invoke/MethodHandle" ∧ y.cls ≠ "java/lang/invoke/VarHandle" ∧ (parseMethodDescriptor y.desc).map (fun d => d.parameters.length) = some n) ∧ plainName y.cls = true
/-- the worlds' classes, the arrays' classes (int, long, Object), the texts' cells, the shared empty array -/
abbrev sx_G : Type := va_G × ClassId × ClassId × ClassId × Nat × Nat × Nat × Nat
abbrev sx_D (G : sx_G) : va_G := G.1
abbrev sx_tys (G : sx_G) : List (ClassId × FieldType) := [(G.2.1, .int), (G.2.2.1, .long), (G.2.2.2.1, .object "java/lang/Object")]
def eV (G : sx_G) (A : Nat → Prop) (U : State) (H : Heap) : Prop :=
  vk_R RX7 252 "there is no such one" G.2.2.2.2.1 U ∧ vk_R RX7 259 "an argument is not what it may be" G.2.2.2.2.2.1 U ∧ vk_R RX7 264 "this can not be done now" G.2.2.2.2.2.2.1 U ∧
  vx_Zq Bundle.tN "UNASSIGNED_STACK" Bundle.steD A U H ∧ vx_Zq Bundle.tN "SUPPRESSED_SENTINEL" Bundle.listD A U H ∧
  va_Z "java/util/ArrayList" "DEFAULTCAPACITY_EMPTY_ELEMENTDATA" "[Ljava/lang/Object;" (.ref G.2.2.2.2.2.2.2) A U H ∧ va_T (.object "java/lang/Object") G.2.2.2.2.2.2.2 0 (fun _ => .null) A U H ∧
  va_Nc "java/lang/IllegalArgumentException" "java/lang/IndexOutOfBoundsException" U ∧ va_Nc "java/lang/IllegalStateException" "java/lang/IndexOutOfBoundsException" U ∧ va_Nc "java/lang/IllegalStateException" "java/lang/IllegalArgumentException" U
theorem eV.same {G : sx_G} {A : Nat → Prop} {u U : State} {H : Heap} (hv : U.vm = u.vm) (h : eV G A u H) : eV G A U H := by
  have hal : u.vm.Alike U.vm := by rw [hv]; exact Vm.Alike.refl _
  obtain ⟨h1, h2, h3, h4, h5, h6, h7, h8, h9, h10⟩ := h
  exact ⟨vk_R.same hv h1, vk_R.same hv h2, vk_R.same hv h3, h4.moved hal, h5.moved hal, h6.moved hal, h7.moved hal, h8.moved hal, h9.moved hal, h10.moved hal⟩
theorem eV.go {G : sx_G} {A0 A1 : Nat → Prop} {s U : State} {H : Heap} {locs : List Loc} (h : eV G A0 s s.heap) (hS : va_S A0 s.heap H locs) (hF : ∀ q, A1 q → A0 q) (hU : U.heap = H) (hW : s.WarmedH U.vm) : eV G A1 U U.heap := by
  subst hU
  have hal := hW.alike
  obtain ⟨h1, h2, h3, h4, h5, h6, h7, h8, h9, h10⟩ := h
  exact ⟨vk_R.warm hW h1, vk_R.warm hW h2, vk_R.warm hW h3, ((h4.kept hS.2.1).moved hal).narrow hF, ((h5.kept hS.2.1).moved hal).narrow hF, ((h6.kept hS.2.1).moved hal).narrow hF, ((h7.kept hS.2.1).moved hal).narrow hF, h8.moved hal, h9.moved hal, h10.moved hal⟩
def sx_pre (G : sx_G) (ws : va_W) (sz : Nat) (U : State) : Prop := U.heap.size = sz ∧ va_P (sx_D G) vwCl ws U.heap ∧ va_K (sx_D G) vwCl (sx_tys G) U ∧ va_D (fun _ => True) ws ∧ eV G (va_A ws sz) U U.heap
theorem sx_blind {G : sx_G} {av : List Value} {ws : va_W} {sz : Nat} : FrameBlind (va_Pc av (sx_pre G ws sz)) := fun a U g mk h => by
  obtain ⟨h0, h1, h2, h3, h4, h5⟩ := h
  exact ⟨h0, h1, h2, va_K.moved (u := U) (U := U.calling g mk a) (Vm.Alike.refl U.vm) h3, h4, eV.same (u := U) (U := U.calling g mk a) rfl h5⟩
def sx_Fx (p : Program) (m : MethodId) (c : Code) (cc : ByteArray) (nL : Nat) (s : State) (args : Array Value) (own : String) (G : sx_G) (A0 : Nat → Prop) : Prop :=
  p.tables.exec = Jvm.exec ∧ c.code = cc ∧ c.maxLocals = nL ∧ s.vm.findClass own = some m.cls ∧ (∀ w ∈ lw_all, w.before args s = true) ∧ va_K (sx_D G) vwCl (sx_tys G) s ∧ eV G A0 s s.heap ∧ ∀ q : Nat, s.heap.size ≤ q → A0 q
/-- which of the caller's cells go along (isC: wc), which stay (isR: wr) -/
def sx_cut (ws wc wr : va_W) (isC isR : List Nat) : Prop := isC.map (fun i => ws[i]?) = wc.map some ∧ isR.map (fun i => ws[i]?) = wr.map some ∧ va_nd isC = true ∧ va_nd isR = true ∧ ∀ i ∈ isR, i ∉ isC
theorem sx_pick {ws wc : va_W} {is : List Nat} (hs : is.map (fun i => ws[i]?) = wc.map some) (k : Nat) (q : Nat × va_E) (hq : wc[k]? = some q) : ∃ i, is[k]? = some i ∧ ws[i]? = some q := by
  have h1 : (is.map (fun i => ws[i]?))[k]? = some (some q) := by rw [hs, List.getElem?_map, hq]; rfl
  rw [List.getElem?_map] at h1
  cases hi : is[k]? with
  | none => rw [hi] at h1; cases h1
  | some i => rw [hi] at h1; exact ⟨i, rfl, Option.some.inj h1⟩
section SXA
variable {G : sx_G} {A0 : Nat → Prop} {ws wc wr : va_W} {isC isR : List Nat} {s : State} {H : Heap} {locs : List Loc}
theorem sx_pU (hcut : sx_cut ws wc wr isC isR) (hP : va_P (sx_D G) vwCl ws H) (hD : va_D A0 ws) (hK : va_K (sx_D G) vwCl (sx_tys G) s) (hE : eV G A0 s s.heap) (hS : va_S A0 s.heap H locs) (hA : ∀ q : Nat, s.heap.size ≤ q → A0 q) (U : State) (hU : U.heap = H) (hW : s.WarmedH U.vm) : sx_pre G wc H.size U := by
  refine ⟨by rw [hU], ?_, va_K.moved hW.alike hK, (hD.sub isC hcut.2.2.1 hcut.1).weaken (fun _ _ _ _ => trivial), hE.go hS (va_free hD hS hA isC hcut.1) hU hW⟩
  rw [hU]
  intro k q hk
  obtain ⟨i, -, hi⟩ := sx_pick hcut.1 k q hk
  exact hP i q hi
end SXA
section SXR
variable {p : Program} {l : Launch} {e : Env} {R : Room} {s : State} {m : MethodId} {args : Array Value} {below : List Frame} {meth : Method} {c : Code} {H : Heap} {locs : List Loc} {cells slots : Nat} {Q : State → Prop}
variable {y : MethodName} {bytes cc : ByteArray} {maxL nL n index fr lo mc ms pc : Nat} {ret : Option FieldType} {Qc : Array Value → State → Outcome → State → Prop} {XC : String → State → State → Prop} {free : Addr → Prop} {own C host : String} {b : Addr} {As rest st0 : List Value} {ls : Array Slot}
variable {G : sx_G} {A0 : Nat → Prop} {ws wc wr : va_W} {isC isR : List Nat} {Pc : Array Value → State → Prop}
/-- the caller's room holds the callee's -/
def sx_R (R : Room) (fr lo mc ms maxL cells slots : Nat) : Prop := (fr + 1 ≤ R.frames ∧ 8 + (maxL + 11) + lo ≤ R.locals) ∧ cells + mc ≤ R.cells ∧ slots + ms ≤ R.slots
theorem sx_cb (ht : ∀ w ∈ lw_all, w.before args s = true) (hm : sx_M y bytes maxL ret n) (hl : Cond.methodLink own index y ∈ lw_all) (hR : sx_R R fr lo mc ms maxL cells slots) :
    CallB R s args own index y bytes maxL ret (sx_ws y bytes maxL ret) { frames := fr, cells := mc, slots := ms, locals := lo } mc ms n := by
  obtain ⟨h1, h2, ⟨h3, h4, h5⟩, -⟩ := hm
  have hpay := sx_pays ht
  refine ⟨rfl, rfl, hR.1.1, hR.1.2, fun w hw => ?_, List.mem_cons_self, ht _ h1, ht _ h2, ⟨h3, h4⟩, fun sig h => ?_, ht _ hl⟩
  · rcases List.mem_cons.mp hw with rfl | hw
    · exact hpay _ h1
    · exact hpay _ hw
  · rw [h] at h5
    exact (Option.some.inj h5).symm
theorem sx_cn (ht : ∀ w ∈ lw_all, w.before args s = true) (hm : sx_M y bytes maxL ret n) (hl : Cond.methodLinkNest own index y host ∈ lw_all) (hR : sx_R R fr lo mc ms maxL cells slots) :
    va_CN R s args own index y host bytes maxL ret (sx_ws y bytes maxL ret) { frames := fr, cells := mc, slots := ms, locals := lo } mc ms n := by
  obtain ⟨h1, h2, ⟨h3, h4, h5⟩, -⟩ := hm
  have hpay := sx_pays ht
  refine ⟨⟨rfl, rfl, hR.1.1, hR.1.2, fun w hw => ?_, List.mem_cons_self⟩, ht _ h1, ht _ h2, ⟨h3, h4⟩, fun sig h => ?_, ht _ hl⟩
  · rcases List.mem_cons.mp hw with rfl | hw
    · exact hpay _ h1
    · exact hpay _ hw
  · rw [h] at h5
    exact (Option.some.inj h5).symm
theorem sx_runS (F : sx_Fx p m c cc nL s args own G A0) (hM : Met l y (sx_ws y bytes maxL ret) { frames := fr, cells := mc, slots := ms, locals := lo } (va_Pc As (sx_pre G wc H.size)) Qc mc ms free) (hm : sx_M y bytes maxL ret n) (hst : Cond.static y ∈ lw_all) (hl : Cond.methodLink own index y ∈ lw_all) (hR : sx_R R fr lo mc ms maxL cells slots)
    (hcut : sx_cut ws wc wr isC isR) (hP : va_P (sx_D G) vwCl ws H) (hD : va_D A0 ws) (hS : va_S A0 s.heap H locs) (hn : As.length = n) (hls : ls.size = nL) (hs0 : st0 = As.reverse ++ rest) (hW : (rest.map fun v => v.category).sum ≤ 8) (hdg : decode cc pc = .ok (.invokestatic index, 3)) :
    va_Run p l e R s m args below meth c H locs cells slots mc ms (F0 m pc ls st0) rest (Qc As.toArray) free := by
  obtain ⟨hx, hb, hml, hown, hts, hK, hE, hA⟩ := F
  exact va_runS ⟨hx, hb, hml, hown, hts⟩ hM ⟨sx_cb hts hm hl hR, hts _ hst⟩ ⟨sx_blind, fun U hU hW => ⟨rfl, sx_pU hcut hP hD hK hE hS hA U hU hW⟩⟩ rfl hn hls hs0 (lv_room hW) hdg hR.2
theorem sx_runSN (F : sx_Fx p m c cc nL s args own G A0) (hM : Met l y (sx_ws y bytes maxL ret) { frames := fr, cells := mc, slots := ms, locals := lo } (va_Pc As (sx_pre G wc H.size)) Qc mc ms free) (hm : sx_M y bytes maxL ret n) (hst : Cond.static y ∈ lw_all) (hl : Cond.methodLinkNest own index y host ∈ lw_all) (hR : sx_R R fr lo mc ms maxL cells slots)
    (hcut : sx_cut ws wc wr isC isR) (hP : va_P (sx_D G) vwCl ws H) (hD : va_D A0 ws) (hS : va_S A0 s.heap H locs) (hn : As.length = n) (hls : ls.size = nL) (hs0 : st0 = As.reverse ++ rest) (hW : (rest.map fun v => v.category).sum ≤ 8) (hdg : decode cc pc = .ok (.invokestatic index, 3)) :
    va_Run p l e R s m args below meth c H locs cells slots mc ms (F0 m pc ls st0) rest (Qc As.toArray) free := by
  obtain ⟨hx, hb, hml, hown, hts, hK, hE, hA⟩ := F
  exact va_runSN ⟨hx, hb, hml, hown, hts⟩ hM ⟨sx_cn hts hm hl hR, hts _ hst, trivial⟩ ⟨sx_blind, fun U hU hW => ⟨rfl, sx_pU hcut hP hD hK hE hS hA U hU hW⟩⟩ rfl hn hls hs0 (lv_room hW) hdg hR.2
theorem sx_runV (F : sx_Fx p m c cc nL s args own G A0) (hM : Met l y (sx_ws y bytes maxL ret) { frames := fr, cells := mc, slots := ms, locals := lo } (va_Pc (.ref b :: As) (sx_pre G wc H.size)) Qc mc ms free) (hm : sx_M y bytes maxL ret n) (hin : Cond.instanceMethod y ∈ lw_all) (hsel : Cond.selects y.cls y y ∈ lw_all) (hl : Cond.methodLink own index y ∈ lw_all) (hR : sx_R R fr lo mc ms maxL cells slots)
    (hcut : sx_cut ws wc wr isC isR) (hP : va_P (sx_D G) vwCl ws H) (hD : va_D A0 ws) (hS : va_S A0 s.heap H locs) (k ci : Nat) {fs : List Value} {T : u_T} {N : Nat} (he : ws[k]? = some (b, .inr (ci, fs))) (hc : vwCl[ci]? = some (y.cls, T, N)) (hn : As.length = n) (hls : ls.size = nL) (hs0 : st0 = As.reverse ++ .ref b :: rest) (hW : (rest.map fun v => v.category).sum ≤ 8) (hdg : decode cc pc = .ok (.invokevirtual index, 3)) :
    va_Run p l e R s m args below meth c H locs cells slots mc ms (F0 m pc ls st0) rest (Qc (Value.ref b :: As).toArray) free := by
  obtain ⟨hx, hb, hml, hown, hts, hK, hE, hA⟩ := F
  exact va_runV ⟨hx, hb, hml, hown, hts⟩ hM ⟨sx_cb hts hm hl hR, hts _ hin, hts _ hsel⟩ ⟨sx_blind, va_recv hK hP hc he, fun U hU hW => ⟨rfl, sx_pU hcut hP hD hK hE hS hA U hU hW⟩⟩ rfl hn hls hs0 (lv_room hW) hdg hR.2
theorem sx_runI (F : sx_Fx p m c cc nL s args own G A0) (hM : Met l y (sx_ws y bytes maxL none) { frames := fr, cells := mc, slots := ms, locals := lo } (va_Pc (.ref b :: As) (sx_pre G wc H.size)) Qc mc ms free) (hm : sx_M y bytes maxL none n) (hin : Cond.instanceMethod y ∈ lw_all) (hy1 : y.name = "<init>") (hl : Cond.methodLink own index y ∈ lw_all) (hR : sx_R R fr lo mc ms maxL cells slots)
    (hcut : sx_cut ws wc wr isC isR) (hP : va_P (sx_D G) vwCl ws H) (hD : va_D A0 ws) (hS : va_S A0 s.heap H locs) (hn : As.length = n) (hls : ls.size = nL) (hs0 : st0 = As.reverse ++ .ref b :: rest) (hW : (rest.map fun v => v.category).sum ≤ 8) (hdg : decode cc pc = .ok (.invokespecial index, 3)) :
    va_Run p l e R s m args below meth c H locs cells slots mc ms (F0 m pc ls st0) rest (Qc (Value.ref b :: As).toArray) free := by
  obtain ⟨hx, hb, hml, hown, hts, hK, hE, hA⟩ := F
  exact va_runI ⟨hx, hb, hml, hown, hts⟩ hM ⟨sx_cb hts hm hl hR, hy1, hts _ hin⟩ ⟨sx_blind, fun U hU hW => ⟨rfl, sx_pU hcut hP hD hK hE hS hA U hU hW⟩⟩ rfl hn hls hs0 (lv_room hW) hdg hR.2
theorem sx_runIN (F : sx_Fx p m c cc nL s args own G A0) (hM : Met l y (sx_ws y bytes maxL none) { frames := fr, cells := mc, slots := ms, locals := lo } (va_Pc (.ref b :: As) (sx_pre G wc H.size)) Qc mc ms free) (hm : sx_M y bytes maxL none n) (hin : Cond.instanceMethod y ∈ lw_all) (hy1 : y.name = "<init>") (hl : Cond.methodLinkNest own index y host ∈ lw_all) (hR : sx_R R fr lo mc ms maxL cells slots)
    (hcut : sx_cut ws wc wr isC isR) (hP : va_P (sx_D G) vwCl ws H) (hD : va_D A0 ws) (hS : va_S A0 s.heap H locs) (hn : As.length = n) (hls : ls.size = nL) (hs0 : st0 = As.reverse ++ .ref b :: rest) (hW : (rest.map fun v => v.category).sum ≤ 8) (hdg : decode cc pc = .ok (.invokespecial index, 3)) :
    va_Run p l e R s m args below meth c H locs cells slots mc ms (F0 m pc ls st0) rest (Qc (Value.ref b :: As).toArray) free := by
  obtain ⟨hx, hb, hml, hown, hts, hK, hE, hA⟩ := F
  exact va_runIN ⟨hx, hb, hml, hown, hts⟩ hM ⟨sx_cn hts hm hl hR, hy1, hts _ hin⟩ ⟨sx_blind, fun U hU hW => ⟨rfl, sx_pU hcut hP hD hK hE hS hA U hU hW⟩⟩ rfl hn hls hs0 (lv_room hW) hdg hR.2
theorem sx_xrunS (F : sx_Fx p m c cc nL s args own G A0) (hM : vx_Met l y (sx_ws y bytes maxL ret) { frames := fr, cells := mc, slots := ms, locals := lo } (va_Pc As (sx_pre G wc H.size)) Qc XC mc ms free) (hm : sx_M y bytes maxL ret n) (hst : Cond.static y ∈ lw_all) (hl : Cond.methodLink own index y ∈ lw_all) (hR : sx_R R fr lo mc ms maxL cells slots)
    (hcut : sx_cut ws wc wr isC isR) (hP : va_P (sx_D G) vwCl ws H) (hD : va_D A0 ws) (hS : va_S A0 s.heap H locs) (hn : As.length = n) (hls : ls.size = nL) (hs0 : st0 = As.reverse ++ rest) (hW : (rest.map fun v => v.category).sum ≤ 8) (hdg : decode cc pc = .ok (.invokestatic index, 3)) :
    vx_Run p l e R s m args below meth c H locs cells slots mc ms (F0 m pc ls st0) rest (Qc As.toArray) XC free := by
  obtain ⟨hx, hb, hml, hown, hts, hK, hE, hA⟩ := F
  exact vx_runS ⟨hx, hb, hml, hown, hts⟩ hM ⟨sx_cb hts hm hl hR, hts _ hst⟩ ⟨sx_blind, fun U hU hW => ⟨rfl, sx_pU hcut hP hD hK hE hS hA U hU hW⟩⟩ rfl hn hls hs0 (lv_room hW) hdg hR.2
theorem sx_xrunV (F : sx_Fx p m c cc nL s args own G A0) (hM : vx_Met l y (sx_ws y bytes maxL ret) { frames := fr, cells := mc, slots := ms, locals := lo } (va_Pc (.ref b :: As) (sx_pre G wc H.size)) Qc XC mc ms free) (hm : sx_M y bytes maxL ret n) (hin : Cond.instanceMethod y ∈ lw_all) (hsel : Cond.selects y.cls y y ∈ lw_all) (hl : Cond.methodLink own index y ∈ lw_all) (hR : sx_R R fr lo mc ms maxL cells slots)
    (hcut : sx_cut ws wc wr isC isR) (hP : va_P (sx_D G) vwCl ws H) (hD : va_D A0 ws) (hS : va_S A0 s.heap H locs) (k ci : Nat) {fs : List Value} {T : u_T} {N : Nat} (he : ws[k]? = some (b, .inr (ci, fs))) (hc : vwCl[ci]? = some (y.cls, T, N)) (hn : As.length = n) (hls : ls.size = nL) (hs0 : st0 = As.reverse ++ .ref b :: rest) (hW : (rest.map fun v => v.category).sum ≤ 8) (hdg : decode cc pc = .ok (.invokevirtual index, 3)) :
    vx_Run p l e R s m args below meth c H locs cells slots mc ms (F0 m pc ls st0) rest (Qc (Value.ref b :: As).toArray) XC free := by
  obtain ⟨hx, hb, hml, hown, hts, hK, hE, hA⟩ := F
  exact vx_runV ⟨hx, hb, hml, hown, hts⟩ hM ⟨sx_cb hts hm hl hR, hts _ hin, hts _ hsel⟩ ⟨sx_blind, va_recv hK hP hc he, fun U hU hW => ⟨rfl, sx_pU hcut hP hD hK hE hS hA U hU hW⟩⟩ rfl hn hls hs0 (lv_room hW) hdg hR.2
end SXR
end
section
/-! contracts of one form: what a method needs (cells ws), what comes (cells w1 u), its answer -/
def sx_Qi {S : Type} (G : sx_G) (post : Int32 → S → Prop) (w1 : S → va_W) (A : Nat → Prop) : Array Value → State → Outcome → State → Prop := va_Qi post (fun u t => va_P (sx_D G) vwCl (w1 u) t.heap ∧ va_D A (w1 u)) A
def sx_Ql {S : Type} (G : sx_G) (post : Int64 → S → Prop) (w1 : S → va_W) (A : Nat → Prop) : Array Value → State → Outcome → State → Prop := va_Ql post (fun u t => va_P (sx_D G) vwCl (w1 u) t.heap ∧ va_D A (w1 u)) A
def sx_Qd {S : Type} (G : sx_G) (post : UInt64 → S → Prop) (w1 : S → va_W) (A : Nat → Prop) : Array Value → State → Outcome → State → Prop := va_Qd post (fun u t => va_P (sx_D G) vwCl (w1 u) t.heap ∧ va_D A (w1 u)) A
def sx_Qv {S : Type} (G : sx_G) (post : S → Prop) (w1 : S → va_W) (A : Nat → Prop) : Array Value → State → Outcome → State → Prop := va_Qv post (fun u t => va_P (sx_D G) vwCl (w1 u) t.heap ∧ va_D A (w1 u)) A
def sx_Qr {S : Type} (G : sx_G) (post : S → Prop) (w1 : S → Nat → va_W) (A : Nat → Prop) : Array Value → State → Outcome → State → Prop := va_Qr post (fun u a t => va_P (sx_D G) vwCl (w1 u a) t.heap ∧ va_D A (w1 u a)) A
def sx_XC (px : String → Prop) (A : Nat → Prop) : String → State → State → Prop := vx_X (fun _ : Unit => True) (fun E _ _ => px E) A
abbrev sx_Met (l : Launch) (y : MethodName) (b : ByteArray) (mL : Nat) (ret : Option FieldType) (fr lo mc ms : Nat) (G : sx_G) (av : List Value) (ws : va_W) (sz : Nat) (Q : (Nat → Prop) → Array Value → State → Outcome → State → Prop) : Prop :=
  Met l y (sx_ws y b mL ret) { frames := fr, cells := mc, slots := ms, locals := lo } (va_Pc av (sx_pre G ws sz)) (Q (va_A ws sz)) mc ms (va_A ws sz)
abbrev sx_MetX (l : Launch) (y : MethodName) (b : ByteArray) (mL : Nat) (ret : Option FieldType) (fr lo mc ms : Nat) (G : sx_G) (av : List Value) (ws : va_W) (sz : Nat) (Q : (Nat → Prop) → Array Value → State → Outcome → State → Prop) (px : String → Prop) : Prop :=
  vx_Met l y (sx_ws y b mL ret) { frames := fr, cells := mc, slots := ms, locals := lo } (va_Pc av (sx_pre G ws sz)) (Q (va_A ws sz)) (sx_XC px (va_A ws sz)) mc ms (va_A ws sz)
theorem sx_start {l : Launch} {y : MethodName} {b : ByteArray} {mL : Nat} {ret : Option FieldType} {fr lo mc ms : Nat} {G : sx_G} {av : List Value} {ws : va_W} {sz : Nat} {Q : (Nat → Prop) → Array Value → State → Outcome → State → Prop} (hy : plainName y.cls = true) (hlen : Nat.ble (lg_sl av).length mL = true)
    (body : ∀ (p : Program) (e : Env) (s : State) (m : MethodId) (below : List Frame) (meth : Method) (c : Code) (A : Nat → Prop) (ls : Array Slot), sx_Fx p m c b mL s av.toArray y.cls G A → meth.sig.returnType = ret → meth.locks = false → meth.name = y.name → va_P (sx_D G) vwCl ws s.heap → va_D A ws → va_S A s.heap s.heap [] → lv_has ls mL (lv_args 0 av) →
      W p l e { frames := fr, cells := mc, slots := ms, locals := lo } s m av.toArray below meth c s.heap [] 0 0 (MQ below (Q A) av.toArray s mc ms A) (F0 m 0 ls [])) : sx_Met l y b mL ret fr lo mc ms G av ws sz Q := by
  refine Met.ofW (cc := b) (maxL := mL) (ret := ret) hy rfl ?_
  intro p e s m args below meth c s₁ B hml hv
  obtain ⟨rfl, hsz, hP, hK, hD0, hE⟩ := hv
  have hts := atoms_spec (ws := sx_ws y b mL ret) B.pre
  subst hsz
  have hl := lv_entry av (n := mL) (Nat.le_of_ble_eq_true hlen)
  rw [lg_entry_eq]
  exact body p e s m below meth c _ _ ⟨B.exec, B.bytes, hml, findClass_of_methodNamed B.named, fun w h => hts w (List.mem_cons_of_mem _ h), hK, hE, fun q h => Or.inr h⟩ B.returns B.notSynchronized (name_of_methodNamed B.named B.method).1 hP hD0.self va_S.rf hl
theorem sx_startX {l : Launch} {y : MethodName} {b : ByteArray} {mL : Nat} {ret : Option FieldType} {fr lo mc ms : Nat} {G : sx_G} {av : List Value} {ws : va_W} {sz : Nat} {Q : (Nat → Prop) → Array Value → State → Outcome → State → Prop} {px : String → Prop} (hy : plainName y.cls = true) (hlen : Nat.ble (lg_sl av).length mL = true)
    (body : ∀ (p : Program) (e : Env) (s : State) (m : MethodId) (below : List Frame) (meth : Method) (c : Code) (A : Nat → Prop) (ls : Array Slot), sx_Fx p m c b mL s av.toArray y.cls G A → meth.sig.returnType = ret → meth.locks = false → meth.name = y.name → (∀ x ∈ c.exceptionTable.toList, False) → va_P (sx_D G) vwCl ws s.heap → va_D A ws → va_S A s.heap s.heap [] → lv_has ls mL (lv_args 0 av) →
      W p l e { frames := fr, cells := mc, slots := ms, locals := lo } s m av.toArray below meth c s.heap [] 0 0 (vx_MQ below (Q A) (sx_XC px A) av.toArray s mc ms A) (F0 m 0 ls [])) : sx_MetX l y b mL ret fr lo mc ms G av ws sz Q px := by
  refine vx_ofW (cc := b) (maxL := mL) (ret := ret) hy rfl ?_
  intro p e s m args below meth c s₁ B hml hex hv
  obtain ⟨rfl, hsz, hP, hK, hD0, hE⟩ := hv
  have hts := atoms_spec (ws := sx_ws y b mL ret) B.pre
  subst hsz
  have hl := lv_entry av (n := mL) (Nat.le_of_ble_eq_true hlen)
  rw [lg_entry_eq]
  exact body p e s m below meth c _ _ ⟨B.exec, B.bytes, hml, findClass_of_methodNamed B.named, fun w h => hts w (List.mem_cons_of_mem _ h), hK, hE, fun q h => Or.inr h⟩ B.returns B.notSynchronized (name_of_methodNamed B.named B.method).1 hex hP hD0.self va_S.rf hl
section SXE
variable {p : Program} {l : Launch} {e : Env} {R : Room} {s : State} {m : MethodId} {args : Array Value} {below : List Frame} {meth : Method} {c : Code} {H : Heap} {locs : List Loc} {cells slots : Nat} {Q : State → Prop}
variable {cc : ByteArray} {mc ms pc : Nat} {rest st0 : List Value} {ls : Array Slot} {a : Array Value} {fre : Addr → Prop}
variable {G : sx_G} {A : Nat → Prop} {ws wc wr : va_W} {isC isR : List Nat} {S : Type}
/-- ends -/
theorem sx_iret {post : Int32 → S → Prop} {w1 : S → va_W} {v : Int32} {ty : FieldType} (u : S) (hx : p.tables.exec = Jvm.exec) (hb : c.code = cc) (hr : meth.sig.returnType = some ty) (hn : narrow ty (.int v) = .int v) (hlk : meth.locks = false) (hP : va_P (sx_D G) vwCl (w1 u) H) (hD : va_D A (w1 u)) (hS : va_S A s.heap H locs) (hp : post v u) (hdg : decode cc pc = .ok (.ireturn, 1)) (hc : Nat.ble cells mc = true) (hs : Nat.ble slots ms = true) :
    W p l e R s m args below meth c H locs cells slots (MQ below (sx_Qi G post w1 A) args s mc ms A) (F0 m pc ls [.int v]) :=
  W.widen (k := mc) (n := ms) (Nat.le_of_ble_eq_true hc) (Nat.le_of_ble_eq_true hs) (W.zret (v := v) hx hb hr hn (fun t ht hW => ⟨⟨v, u, rfl, hp, by rw [ht]; exact hP, hD⟩, hS.F ht⟩) hS.2.2 hdg hlk)
theorem sx_lret {post : Int64 → S → Prop} {w1 : S → va_W} {v : Int64} (u : S) (hx : p.tables.exec = Jvm.exec) (hb : c.code = cc) (hr : meth.sig.returnType = some .long) (hlk : meth.locks = false) (hP : va_P (sx_D G) vwCl (w1 u) H) (hD : va_D A (w1 u)) (hS : va_S A s.heap H locs) (hp : post v u) (hdg : decode cc pc = .ok (.lreturn, 1)) (hc : Nat.ble cells mc = true) (hs : Nat.ble slots ms = true) :
    W p l e R s m args below meth c H locs cells slots (MQ below (sx_Ql G post w1 A) args s mc ms A) (F0 m pc ls [.long v]) :=
  W.widen (k := mc) (n := ms) (Nat.le_of_ble_eq_true hc) (Nat.le_of_ble_eq_true hs) (W.lret (v := v) hx hb hr (fun t ht hW => ⟨⟨v, u, rfl, hp, by rw [ht]; exact hP, hD⟩, hS.F ht⟩) hS.2.2 hdg hlk)
theorem sx_dret {post : UInt64 → S → Prop} {w1 : S → va_W} {v : UInt64} (u : S) (hx : p.tables.exec = Jvm.exec) (hb : c.code = cc) (hr : meth.sig.returnType = some .double) (hlk : meth.locks = false) (hP : va_P (sx_D G) vwCl (w1 u) H) (hD : va_D A (w1 u)) (hS : va_S A s.heap H locs) (hp : post v u) (hdg : decode cc pc = .ok (.dreturn, 1)) (hc : Nat.ble cells mc = true) (hs : Nat.ble slots ms = true) :
    W p l e R s m args below meth c H locs cells slots (MQ below (sx_Qd G post w1 A) args s mc ms A) (F0 m pc ls [.double v]) :=
  W.widen (k := mc) (n := ms) (Nat.le_of_ble_eq_true hc) (Nat.le_of_ble_eq_true hs) (W.dret (v := v) hx hb hr (fun t ht hW => ⟨⟨v, u, rfl, hp, by rw [ht]; exact hP, hD⟩, hS.F ht⟩) hS.2.2 hdg hlk)
theorem sx_vret {post : S → Prop} {w1 : S → va_W} (u : S) (hx : p.tables.exec = Jvm.exec) (hb : c.code = cc) (hr : meth.sig.returnType = none) (hlk : meth.locks = false) (hP : va_P (sx_D G) vwCl (w1 u) H) (hD : va_D A (w1 u)) (hS : va_S A s.heap H locs) (hp : post u) (hdg : decode cc pc = .ok (.return_, 1)) (hc : Nat.ble cells mc = true) (hs : Nat.ble slots ms = true) :
    W p l e R s m args below meth c H locs cells slots (MQ below (sx_Qv G post w1 A) args s mc ms A) (F0 m pc ls []) :=
  W.widen (k := mc) (n := ms) (Nat.le_of_ble_eq_true hc) (Nat.le_of_ble_eq_true hs) (W.vret hx hb hr (fun t ht hW => ⟨⟨u, rfl, hp, by rw [ht]; exact hP, hD⟩, hS.F ht⟩) hS.2.2 hdg hlk)
theorem sx_aret {post : S → Prop} {w1 : S → Nat → va_W} {v : Nat} {rt : FieldType} (u : S) (hx : p.tables.exec = Jvm.exec) (hb : c.code = cc) (hr : meth.sig.returnType = some rt) (hrt : (∃ n, rt = .object n) ∨ ∃ t, rt = .array t) (hlk : meth.locks = false) (hP : va_P (sx_D G) vwCl (w1 u v) H) (hD : va_D A (w1 u v)) (hS : va_S A s.heap H locs) (hp : post u) (hdg : decode cc pc = .ok (.areturn, 1)) (hc : Nat.ble cells mc = true) (hs : Nat.ble slots ms = true) :
    W p l e R s m args below meth c H locs cells slots (MQ below (sx_Qr G post w1 A) args s mc ms A) (F0 m pc ls [.ref v]) :=
  W.widen (k := mc) (n := ms) (Nat.le_of_ble_eq_true hc) (Nat.le_of_ble_eq_true hs) (W.aret (v := .ref v) hx hb hr hrt (Or.inr ⟨_, rfl⟩) (fun t ht hW => ⟨⟨u, v, rfl, hp, by rw [ht]; exact hP, hD⟩, hS.F ht⟩) hS.2.2 hdg hlk)
/-- behind a call: the caller's other cells, and what came -/
theorem sx_join {w1 : va_W} {H1 : Heap} (hcut : sx_cut ws wc wr isC isR) (hP : va_P (sx_D G) vwCl ws H) (hD : va_D A ws) (hS : va_S A s.heap H locs) (hA : ∀ q : Nat, s.heap.size ≤ q → A q) (hk : ∀ q : Nat, q < H.size → ¬ va_A wc H.size q → H1[q]? = H[q]?) (hP1 : va_P (sx_D G) vwCl w1 H1) (hD1 : va_D (va_A wc H.size) w1) : va_P (sx_D G) vwCl (wr ++ w1) H1 ∧ va_D A (wr ++ w1) :=
  va_join hP hD isC isR hcut.1 hcut.2.1 hcut.2.2.2.1 hcut.2.2.2.2 hk (va_free hD hS hA isC hcut.1) hP1 hD1
theorem sx_ki {post : Int32 → S → Prop} {w1 : S → va_W} (hr : va_Run p l e R s m args below meth c H locs cells slots mc ms (F0 m pc ls st0) rest (sx_Qi G post w1 (va_A wc H.size) a) (va_A wc H.size)) (hcut : sx_cut ws wc wr isC isR) (hP : va_P (sx_D G) vwCl ws H) (hD : va_D A ws) (hS : va_S A s.heap H locs) (hA : ∀ q : Nat, s.heap.size ≤ q → A q)
    (kk : ∀ (r : Int32) (u : S) (H1 : Heap) (locs1 : List Loc), post r u → va_P (sx_D G) vwCl (wr ++ w1 u) H1 → va_D A (wr ++ w1 u) → va_S A s.heap H1 locs1 → W p l e R s m args below meth c H1 locs1 (cells + mc) (slots + ms) Q (F0 m (pc + 3) ls (.int r :: rest))) : W p l e R s m args below meth c H locs cells slots Q (F0 m pc ls st0) := by
  have hf := va_free hD hS hA isC hcut.1
  refine va_calli hr hS (fun q _ h => hf q h) hf (fun r u t H1 locs1 ht hvm hw hB hz1 hk1 hS1 => ?_)
  obtain ⟨hP1, hD1⟩ := hB
  rw [ht] at hP1
  obtain ⟨hP2, hD2⟩ := sx_join hcut hP hD hS hA hk1 hP1 hD1
  exact kk r u H1 locs1 hw hP2 hD2 hS1
theorem sx_kl {post : Int64 → S → Prop} {w1 : S → va_W} (hr : va_Run p l e R s m args below meth c H locs cells slots mc ms (F0 m pc ls st0) rest (sx_Ql G post w1 (va_A wc H.size) a) (va_A wc H.size)) (hcut : sx_cut ws wc wr isC isR) (hP : va_P (sx_D G) vwCl ws H) (hD : va_D A ws) (hS : va_S A s.heap H locs) (hA : ∀ q : Nat, s.heap.size ≤ q → A q)
    (kk : ∀ (r : Int64) (u : S) (H1 : Heap) (locs1 : List Loc), post r u → va_P (sx_D G) vwCl (wr ++ w1 u) H1 → va_D A (wr ++ w1 u) → va_S A s.heap H1 locs1 → W p l e R s m args below meth c H1 locs1 (cells + mc) (slots + ms) Q (F0 m (pc + 3) ls (.long r :: rest))) : W p l e R s m args below meth c H locs cells slots Q (F0 m pc ls st0) := by
  have hf := va_free hD hS hA isC hcut.1
  refine va_calll hr hS (fun q _ h => hf q h) hf (fun r u t H1 locs1 ht hvm hw hB hz1 hk1 hS1 => ?_)
  obtain ⟨hP1, hD1⟩ := hB
  rw [ht] at hP1
  obtain ⟨hP2, hD2⟩ := sx_join hcut hP hD hS hA hk1 hP1 hD1
  exact kk r u H1 locs1 hw hP2 hD2 hS1
theorem sx_kd {post : UInt64 → S → Prop} {w1 : S → va_W} (hr : va_Run p l e R s m args below meth c H locs cells slots mc ms (F0 m pc ls st0) rest (sx_Qd G post w1 (va_A wc H.size) a) (va_A wc H.size)) (hcut : sx_cut ws wc wr isC isR) (hP : va_P (sx_D G) vwCl ws H) (hD : va_D A ws) (hS : va_S A s.heap H locs) (hA : ∀ q : Nat, s.heap.size ≤ q → A q)
    (kk : ∀ (r : UInt64) (u : S) (H1 : Heap) (locs1 : List Loc), post r u → va_P (sx_D G) vwCl (wr ++ w1 u) H1 → va_D A (wr ++ w1 u) → va_S A s.heap H1 locs1 → W p l e R s m args below meth c H1 locs1 (cells + mc) (slots + ms) Q (F0 m (pc + 3) ls (.double r :: rest))) : W p l e R s m args below meth c H locs cells slots Q (F0 m pc ls st0) := by
  have hf := va_free hD hS hA isC hcut.1
  refine va_calld hr hS (fun q _ h => hf q h) hf (fun r u t H1 locs1 ht hvm hw hB hz1 hk1 hS1 => ?_)
  obtain ⟨hP1, hD1⟩ := hB
  rw [ht] at hP1
  obtain ⟨hP2, hD2⟩ := sx_join hcut hP hD hS hA hk1 hP1 hD1
  exact kk r u H1 locs1 hw hP2 hD2 hS1
theorem sx_kv {post : S → Prop} {w1 : S → va_W} (hr : va_Run p l e R s m args below meth c H locs cells slots mc ms (F0 m pc ls st0) rest (sx_Qv G post w1 (va_A wc H.size) a) (va_A wc H.size)) (hcut : sx_cut ws wc wr isC isR) (hP : va_P (sx_D G) vwCl ws H) (hD : va_D A ws) (hS : va_S A s.heap H locs) (hA : ∀ q : Nat, s.heap.size ≤ q → A q)
    (kk : ∀ (u : S) (H1 : Heap) (locs1 : List Loc), post u → va_P (sx_D G) vwCl (wr ++ w1 u) H1 → va_D A (wr ++ w1 u) → va_S A s.heap H1 locs1 → W p l e R s m args below meth c H1 locs1 (cells + mc) (slots + ms) Q (F0 m (pc + 3) ls rest)) : W p l e R s m args below meth c H locs cells slots Q (F0 m pc ls st0) := by
  have hf := va_free hD hS hA isC hcut.1
  refine va_callv hr hS (fun q _ h => hf q h) hf (fun u t H1 locs1 ht hvm hw hB hz1 hk1 hS1 => ?_)
  obtain ⟨hP1, hD1⟩ := hB
  rw [ht] at hP1
  obtain ⟨hP2, hD2⟩ := sx_join hcut hP hD hS hA hk1 hP1 hD1
  exact kk u H1 locs1 hw hP2 hD2 hS1
theorem sx_kr {post : S → Prop} {w1 : S → Nat → va_W} (hr : va_Run p l e R s m args below meth c H locs cells slots mc ms (F0 m pc ls st0) rest (sx_Qr G post w1 (va_A wc H.size) a) (va_A wc H.size)) (hcut : sx_cut ws wc wr isC isR) (hP : va_P (sx_D G) vwCl ws H) (hD : va_D A ws) (hS : va_S A s.heap H locs) (hA : ∀ q : Nat, s.heap.size ≤ q → A q)
    (kk : ∀ (u : S) (r : Nat) (H1 : Heap) (locs1 : List Loc), post u → va_P (sx_D G) vwCl (wr ++ w1 u r) H1 → va_D A (wr ++ w1 u r) → va_S A s.heap H1 locs1 → W p l e R s m args below meth c H1 locs1 (cells + mc) (slots + ms) Q (F0 m (pc + 3) ls (.ref r :: rest))) : W p l e R s m args below meth c H locs cells slots Q (F0 m pc ls st0) := by
  have hf := va_free hD hS hA isC hcut.1
  refine va_callr hr hS (fun q _ h => hf q h) hf (fun u r t H1 locs1 ht hvm hw hB hz1 hk1 hS1 => ?_)
  obtain ⟨hP1, hD1⟩ := hB
  rw [ht] at hP1
  obtain ⟨hP2, hD2⟩ := sx_join hcut hP hD hS hA hk1 hP1 hD1
  exact kk u r H1 locs1 hw hP2 hD2 hS1
/-- a call that may throw: kx goes on where it did -/
theorem sx_xki {post : Int32 → S → Prop} {w1 : S → va_W} {px : String → Prop} (hr : vx_Run p l e R s m args below meth c H locs cells slots mc ms (F0 m pc ls st0) rest (sx_Qi G post w1 (va_A wc H.size) a) (sx_XC px (va_A wc H.size)) (va_A wc H.size)) (hcut : sx_cut ws wc wr isC isR) (hP : va_P (sx_D G) vwCl ws H) (hD : va_D A ws) (hS : va_S A s.heap H locs) (hA : ∀ q : Nat, s.heap.size ≤ q → A q)
    (kx : ∀ (E : String) (ce : Cell) (q9 : Addr) (H1 : Heap) (locs1 : List Loc), px E → va_P (sx_D G) vwCl (wr ++ []) H1 → va_D A (wr ++ []) → va_S A s.heap H1 locs1 → H1[q9]? = some ce → ce.vm = .none → s.vm.findClass E = some ce.cls → vx_W p l e R s m args below meth c H1 locs1 (cells + mc) (slots + ms) Q (F0 m pc ls rest) q9)
    (kk : ∀ (r : Int32) (u : S) (H1 : Heap) (locs1 : List Loc), post r u → va_P (sx_D G) vwCl (wr ++ w1 u) H1 → va_D A (wr ++ w1 u) → va_S A s.heap H1 locs1 → W p l e R s m args below meth c H1 locs1 (cells + mc) (slots + ms) Q (F0 m (pc + 3) ls (.int r :: rest))) : W p l e R s m args below meth c H locs cells slots Q (F0 m pc ls st0) := by
  have hf := va_free hD hS hA isC hcut.1
  refine vx_calli hr hS (fun q _ h => hf q h) hf (fun q _ h => hf q h) (fun E ce q9 u t H1 locs1 ht hvm _ hB hz1 hk1 hS1 hce hcv hcl => ?_) (fun r u t H1 locs1 ht hvm hw hB hz1 hk1 hS1 => ?_)
  · obtain ⟨hP2, hD2⟩ := sx_join (w1 := []) hcut hP hD hS hA hk1 (fun k q h => by simp at h) ⟨fun i j p q h => by simp at h, fun k q h => by simp at h⟩
    exact kx E ce q9 H1 locs1 hB hP2 hD2 hS1 hce hcv hcl
  · obtain ⟨hP1, hD1⟩ := hB
    rw [ht] at hP1
    obtain ⟨hP2, hD2⟩ := sx_join hcut hP hD hS hA hk1 hP1 hD1
    exact kk r u H1 locs1 hw hP2 hD2 hS1
theorem sx_xkv {post : S → Prop} {w1 : S → va_W} {px : String → Prop} (hr : vx_Run p l e R s m args below meth c H locs cells slots mc ms (F0 m pc ls st0) rest (sx_Qv G post w1 (va_A wc H.size) a) (sx_XC px (va_A wc H.size)) (va_A wc H.size)) (hcut : sx_cut ws wc wr isC isR) (hP : va_P (sx_D G) vwCl ws H) (hD : va_D A ws) (hS : va_S A s.heap H locs) (hA : ∀ q : Nat, s.heap.size ≤ q → A q)
    (kx : ∀ (E : String) (ce : Cell) (q9 : Addr) (H1 : Heap) (locs1 : List Loc), px E → va_P (sx_D G) vwCl (wr ++ []) H1 → va_D A (wr ++ []) → va_S A s.heap H1 locs1 → H1[q9]? = some ce → ce.vm = .none → s.vm.findClass E = some ce.cls → vx_W p l e R s m args below meth c H1 locs1 (cells + mc) (slots + ms) Q (F0 m pc ls rest) q9)
    (kk : ∀ (u : S) (H1 : Heap) (locs1 : List Loc), post u → va_P (sx_D G) vwCl (wr ++ w1 u) H1 → va_D A (wr ++ w1 u) → va_S A s.heap H1 locs1 → W p l e R s m args below meth c H1 locs1 (cells + mc) (slots + ms) Q (F0 m (pc + 3) ls rest)) : W p l e R s m args below meth c H locs cells slots Q (F0 m pc ls st0) := by
  have hf := va_free hD hS hA isC hcut.1
  refine vx_callv hr hS (fun q _ h => hf q h) hf (fun q _ h => hf q h) (fun E ce q9 u t H1 locs1 ht hvm _ hB hz1 hk1 hS1 hce hcv hcl => ?_) (fun u t H1 locs1 ht hvm hw hB hz1 hk1 hS1 => ?_)
  · obtain ⟨hP2, hD2⟩ := sx_join (w1 := []) hcut hP hD hS hA hk1 (fun k q h => by simp at h) ⟨fun i j p q h => by simp at h, fun k q h => by simp at h⟩
    exact kx E ce q9 H1 locs1 hB hP2 hD2 hS1 hce hcv hcl
  · obtain ⟨hP1, hD1⟩ := hB
    rw [ht] at hP1
    obtain ⟨hP2, hD2⟩ := sx_join hcut hP hD hS hA hk1 hP1 hD1
    exact kk u H1 locs1 hw hP2 hD2 hS1
/-- not caught here: it goes on -/
theorem sx_out {Qc : Array Value → State → Outcome → State → Prop} {px : String → Prop} {E : String} {ce : Cell} {q : Addr} (hout : ∀ x ∈ c.exceptionTable.toList, False) (hlk : meth.locks = false) (hce : H[q]? = some ce) (hcv : ce.vm = .none) (hcl : s.vm.findClass E = some ce.cls) (hp : px E) (hS : va_S A s.heap H locs) (hc : Nat.ble cells mc = true) (hs : Nat.ble slots ms = true) :
    vx_W p l e R s m args below meth c H locs cells slots (vx_MQ below Qc (sx_XC px A) args s mc ms A) (F0 m pc ls rest) q :=
  vx_out (fun x hx => (hout x hx).elim) hlk hce hcv hcl (fun t ht hvm => ⟨(), trivial, hp, hS.F ht⟩) hS.2.2 (Nat.le_of_ble_eq_true hc) (Nat.le_of_ble_eq_true hs)
/-- a new row of ints: of the one class -/
theorem sx_newi (hx : p.tables.exec = Jvm.exec) (hb : c.code = cc) (harr : (Cond.arrayClass .int).before args s = true) (hK : va_K (sx_D G) vwCl (sx_tys G) s) (hP : va_P (sx_D G) vwCl ws H) (hD : va_D A ws) (hS : va_S A s.heap H locs) (hA : ∀ q : Nat, s.heap.size ≤ q → A q) {n : Int32} (N' : Nat) (hn : ¬ n < 0) (hN : n.toNatClampNeg = N') (hbytes : N' * 4 ≤ 536870912) (hcells : cells + 1 ≤ R.cells) (hslots : slots + N' ≤ R.slots) (hdg : decode cc pc = .ok (.newarray .int, 2))
    (kk : ∀ (q : Nat) (H1 : Heap), va_P (sx_D G) vwCl (ws ++ [(q, .inl (G.2.1, N', .inl (fun _ => 0)))]) H1 → va_D A (ws ++ [(q, .inl (G.2.1, N', .inl (fun _ => 0)))]) → va_S A s.heap H1 locs →
      W p l e R s m args below meth c H1 locs (cells + 1) (slots + N') Q (F0 m (pc + 2) ls (.ref q :: rest))) : W p l e R s m args below meth c H locs cells slots Q (F0 m pc ls (.int n :: rest)) := by
  refine va_newa (atype := .int) (ty := .int) (a0 := (N', .inl (fun _ => 0))) hx hb harr rfl hK hP hD hS hA (fun cA => rfl) hn hN hbytes hcells hslots hdg (fun q cA H1 hK1 hP1 hD1 hS1 => ?_)
  have h1 := (hK.2 0 _ rfl).2
  have h2 := (hK1.2 3 _ rfl).2
  have h3 : G.2.1 = cA := Option.some.inj ((show s.vm.findClass _ = some G.2.1 from h1).symm.trans (show s.vm.findClass _ = some cA from h2))
  subst h3
  exact kk q H1 hP1 hD1 hS1
theorem sx_newl (hx : p.tables.exec = Jvm.exec) (hb : c.code = cc) (harr : (Cond.arrayClass .long).before args s = true) (hK : va_K (sx_D G) vwCl (sx_tys G) s) (hP : va_P (sx_D G) vwCl ws H) (hD : va_D A ws) (hS : va_S A s.heap H locs) (hA : ∀ q : Nat, s.heap.size ≤ q → A q) {n : Int32} (N' : Nat) (hn : ¬ n < 0) (hN : n.toNatClampNeg = N') (hbytes : N' * 8 ≤ 536870912) (hcells : cells + 1 ≤ R.cells) (hslots : slots + N' ≤ R.slots) (hdg : decode cc pc = .ok (.newarray .long, 2))
    (kk : ∀ (q : Nat) (H1 : Heap), va_P (sx_D G) vwCl (ws ++ [(q, .inl (G.2.2.1, N', .inr (.inl (fun _ => 0))))]) H1 → va_D A (ws ++ [(q, .inl (G.2.2.1, N', .inr (.inl (fun _ => 0))))]) → va_S A s.heap H1 locs →
      W p l e R s m args below meth c H1 locs (cells + 1) (slots + N') Q (F0 m (pc + 2) ls (.ref q :: rest))) : W p l e R s m args below meth c H locs cells slots Q (F0 m pc ls (.int n :: rest)) := by
  refine va_newa (atype := .long) (ty := .long) (a0 := (N', .inr (.inl (fun _ => 0)))) hx hb harr rfl hK hP hD hS hA (fun cA => rfl) hn hN hbytes hcells hslots hdg (fun q cA H1 hK1 hP1 hD1 hS1 => ?_)
  have h1 := (hK.2 1 _ rfl).2
  have h2 := (hK1.2 3 _ rfl).2
  have h3 : G.2.2.1 = cA := Option.some.inj ((show s.vm.findClass _ = some G.2.2.1 from h1).symm.trans (show s.vm.findClass _ = some cA from h2))
  subst h3
  exact kk q H1 hP1 hD1 hS1
end SXE
end
