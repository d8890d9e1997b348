section
-- ===== PART A: goes FIRST, ahead of the names: the tables' words, and 'selects' of the private methods out of them =====
/-- a private method of a class that the tables say can be made, by its rows of tables_1 -/
def lw_okq (q : MethodName × Nat) : Prop := (q.1.cls ≠ "java/lang/invoke/MethodHandle" ∧ q.1.cls ≠ "java/lang/invoke/VarHandle") ∧ Cond.instantiable q.1.cls q.2 ∈ tables_1 ∧ Cond.privateMethod q.1 ∈ tables_1 ∧ Cond.instanceMethod q.1 ∈ tables_1
theorem lw_p0 : lw_okq (⟨"RiversQueue$Page", "fits", "(I)Z"⟩, 2) := ⟨⟨by decide +kernel, by decide +kernel⟩, List.mem_of_getElem? (i := 27) (by decide +kernel), List.mem_of_getElem? (i := 264) (by decide +kernel), List.mem_of_getElem? (i := 265) (by decide +kernel)⟩
theorem lw_p1 : lw_okq (⟨"RiversQueue$Page", "codeAt", "(I)I"⟩, 2) := ⟨⟨by decide +kernel, by decide +kernel⟩, List.mem_of_getElem? (i := 27) (by decide +kernel), List.mem_of_getElem? (i := 268) (by decide +kernel), List.mem_of_getElem? (i := 269) (by decide +kernel)⟩
theorem lw_p2 : lw_okq (⟨"RiversQueue$Page", "standsBehindEnd", "(I)Z"⟩, 2) := ⟨⟨by decide +kernel, by decide +kernel⟩, List.mem_of_getElem? (i := 27) (by decide +kernel), List.mem_of_getElem? (i := 272) (by decide +kernel), List.mem_of_getElem? (i := 273) (by decide +kernel)⟩
theorem lw_p3 : lw_okq (⟨"RiversQueue$Shore", "pushAll", "()V"⟩, 6) := ⟨⟨by decide +kernel, by decide +kernel⟩, List.mem_of_getElem? (i := 72) (by decide +kernel), List.mem_of_getElem? (i := 442) (by decide +kernel), List.mem_of_getElem? (i := 443) (by decide +kernel)⟩
theorem lw_p4 : lw_okq (⟨"RiversQueue$Shore", "pushes", "(II)Z"⟩, 6) := ⟨⟨by decide +kernel, by decide +kernel⟩, List.mem_of_getElem? (i := 72) (by decide +kernel), List.mem_of_getElem? (i := 446) (by decide +kernel), List.mem_of_getElem? (i := 447) (by decide +kernel)⟩
theorem lw_p5 : lw_okq (⟨"RiversQueue$Shore", "feedSea", "()I"⟩, 6) := ⟨⟨by decide +kernel, by decide +kernel⟩, List.mem_of_getElem? (i := 72) (by decide +kernel), List.mem_of_getElem? (i := 450) (by decide +kernel), List.mem_of_getElem? (i := 451) (by decide +kernel)⟩
theorem lw_p6 : lw_okq (⟨"RiversQueue$Shore", "sendBehindAll", "(I)V"⟩, 6) := ⟨⟨by decide +kernel, by decide +kernel⟩, List.mem_of_getElem? (i := 72) (by decide +kernel), List.mem_of_getElem? (i := 454) (by decide +kernel), List.mem_of_getElem? (i := 455) (by decide +kernel)⟩
theorem lw_p7 : lw_okq (⟨"RiversQueue$Forecast", "isPossible", "(II)Z"⟩, 7) := ⟨⟨by decide +kernel, by decide +kernel⟩, List.mem_of_getElem? (i := 125) (by decide +kernel), List.mem_of_getElem? (i := 463) (by decide +kernel), List.mem_of_getElem? (i := 464) (by decide +kernel)⟩
theorem lw_p8 : lw_okq (⟨"RiversQueue$Forecast", "addTakes", "(I)V"⟩, 7) := ⟨⟨by decide +kernel, by decide +kernel⟩, List.mem_of_getElem? (i := 125) (by decide +kernel), List.mem_of_getElem? (i := 478) (by decide +kernel), List.mem_of_getElem? (i := 479) (by decide +kernel)⟩
theorem lw_p9 : lw_okq (⟨"RiversQueue$Forecast", "hourThatParts", "(I)I"⟩, 7) := ⟨⟨by decide +kernel, by decide +kernel⟩, List.mem_of_getElem? (i := 125) (by decide +kernel), List.mem_of_getElem? (i := 482) (by decide +kernel), List.mem_of_getElem? (i := 483) (by decide +kernel)⟩
theorem lw_p10 : lw_okq (⟨"RiversQueue$Shore", "sumOfRivers", "([I)I"⟩, 6) := ⟨⟨by decide +kernel, by decide +kernel⟩, List.mem_of_getElem? (i := 72) (by decide +kernel), List.mem_of_getElem? (i := 533) (by decide +kernel), List.mem_of_getElem? (i := 534) (by decide +kernel)⟩
theorem lw_p11 : lw_okq (⟨"RiversQueue$BestOrder", "waterBehindOrder", "()I"⟩, 6) := ⟨⟨by decide +kernel, by decide +kernel⟩, List.mem_of_getElem? (i := 169) (by decide +kernel), List.mem_of_getElem? (i := 549) (by decide +kernel), List.mem_of_getElem? (i := 550) (by decide +kernel)⟩
theorem lw_p12 : lw_okq (⟨"RiversQueue$BestOrder", "keepAsFound", "(I)V"⟩, 6) := ⟨⟨by decide +kernel, by decide +kernel⟩, List.mem_of_getElem? (i := 169) (by decide +kernel), List.mem_of_getElem? (i := 557) (by decide +kernel), List.mem_of_getElem? (i := 558) (by decide +kernel)⟩
theorem lw_p13 : lw_okq (⟨"RiversQueue$BestOrder", "goToNextOrder", "()Z"⟩, 6) := ⟨⟨by decide +kernel, by decide +kernel⟩, List.mem_of_getElem? (i := 169) (by decide +kernel), List.mem_of_getElem? (i := 561) (by decide +kernel), List.mem_of_getElem? (i := 562) (by decide +kernel)⟩
theorem lw_p14 : lw_okq (⟨"RiversQueue$BestOrder", "swap", "(II)V"⟩, 6) := ⟨⟨by decide +kernel, by decide +kernel⟩, List.mem_of_getElem? (i := 169) (by decide +kernel), List.mem_of_getElem? (i := 565) (by decide +kernel), List.mem_of_getElem? (i := 566) (by decide +kernel)⟩
theorem lw_p15 : lw_okq (⟨"RiversQueueModel", "faultOf", "()I"⟩, 34) := ⟨⟨by decide +kernel, by decide +kernel⟩, List.mem_of_getElem? (i := 637) (by decide +kernel), List.mem_of_getElem? (i := 762) (by decide +kernel), List.mem_of_getElem? (i := 763) (by decide +kernel)⟩
def lw_privs_1 : List (MethodName × Nat) := [(⟨"RiversQueue$Page", "fits", "(I)Z"⟩, 2), (⟨"RiversQueue$Page", "codeAt", "(I)I"⟩, 2), (⟨"RiversQueue$Page", "standsBehindEnd", "(I)Z"⟩, 2), (⟨"RiversQueue$Shore", "pushAll", "()V"⟩, 6), (⟨"RiversQueue$Shore", "pushes", "(II)Z"⟩, 6), (⟨"RiversQueue$Shore", "feedSea", "()I"⟩, 6), (⟨"RiversQueue$Shore", "sendBehindAll", "(I)V"⟩, 6), (⟨"RiversQueue$Forecast", "isPossible", "(II)Z"⟩, 7), (⟨"RiversQueue$Forecast", "addTakes", "(I)V"⟩, 7), (⟨"RiversQueue$Forecast", "hourThatParts", "(I)I"⟩, 7), (⟨"RiversQueue$Shore", "sumOfRivers", "([I)I"⟩, 6), (⟨"RiversQueue$BestOrder", "waterBehindOrder", "()I"⟩, 6), (⟨"RiversQueue$BestOrder", "keepAsFound", "(I)V"⟩, 6), (⟨"RiversQueue$BestOrder", "goToNextOrder", "()Z"⟩, 6), (⟨"RiversQueue$BestOrder", "swap", "(II)V"⟩, 6), (⟨"RiversQueueModel", "faultOf", "()I"⟩, 34)]
theorem lw_r1 : ∀ q ∈ lw_privs_1, lw_okq q := List.forall_mem_cons.mpr ⟨lw_p0, List.forall_mem_cons.mpr ⟨lw_p1, List.forall_mem_cons.mpr ⟨lw_p2, List.forall_mem_cons.mpr ⟨lw_p3, List.forall_mem_cons.mpr ⟨lw_p4, List.forall_mem_cons.mpr ⟨lw_p5, List.forall_mem_cons.mpr ⟨lw_p6, List.forall_mem_cons.mpr ⟨lw_p7, List.forall_mem_cons.mpr ⟨lw_p8, List.forall_mem_cons.mpr ⟨lw_p9, List.forall_mem_cons.mpr ⟨lw_p10, List.forall_mem_cons.mpr ⟨lw_p11, List.forall_mem_cons.mpr ⟨lw_p12, List.forall_mem_cons.mpr ⟨lw_p13, List.forall_mem_cons.mpr ⟨lw_p14, List.forall_mem_cons.mpr ⟨lw_p15, fun _ h => absurd h List.not_mem_nil⟩⟩⟩⟩⟩⟩⟩⟩⟩⟩⟩⟩⟩⟩⟩⟩
theorem lw_p16 : lw_okq (⟨"RiversQueueModel", "go", "(I)Z"⟩, 34) := ⟨⟨by decide +kernel, by decide +kernel⟩, List.mem_of_getElem? (i := 637) (by decide +kernel), List.mem_of_getElem? (i := 766) (by decide +kernel), List.mem_of_getElem? (i := 767) (by decide +kernel)⟩
theorem lw_p17 : lw_okq (⟨"RiversQueueModel", "isRiver", "(I)Z"⟩, 34) := ⟨⟨by decide +kernel, by decide +kernel⟩, List.mem_of_getElem? (i := 637) (by decide +kernel), List.mem_of_getElem? (i := 783) (by decide +kernel), List.mem_of_getElem? (i := 784) (by decide +kernel)⟩
theorem lw_p18 : lw_okq (⟨"RiversQueueModel", "tell", "(II)I"⟩, 34) := ⟨⟨by decide +kernel, by decide +kernel⟩, List.mem_of_getElem? (i := 637) (by decide +kernel), List.mem_of_getElem? (i := 787) (by decide +kernel), List.mem_of_getElem? (i := 788) (by decide +kernel)⟩
theorem lw_p19 : lw_okq (⟨"RiversQueueModel", "placeOf", "(I)I"⟩, 34) := ⟨⟨by decide +kernel, by decide +kernel⟩, List.mem_of_getElem? (i := 637) (by decide +kernel), List.mem_of_getElem? (i := 791) (by decide +kernel), List.mem_of_getElem? (i := 792) (by decide +kernel)⟩
theorem lw_p20 : lw_okq (⟨"RiversQueueModel", "waitsOf", "(I)I"⟩, 34) := ⟨⟨by decide +kernel, by decide +kernel⟩, List.mem_of_getElem? (i := 637) (by decide +kernel), List.mem_of_getElem? (i := 795) (by decide +kernel), List.mem_of_getElem? (i := 796) (by decide +kernel)⟩
theorem lw_p21 : lw_okq (⟨"RiversQueueModel", "layAside", "()V"⟩, 34) := ⟨⟨by decide +kernel, by decide +kernel⟩, List.mem_of_getElem? (i := 637) (by decide +kernel), List.mem_of_getElem? (i := 799) (by decide +kernel), List.mem_of_getElem? (i := 800) (by decide +kernel)⟩
theorem lw_p22 : lw_okq (⟨"RiversQueueModel", "goesBy", "()V"⟩, 34) := ⟨⟨by decide +kernel, by decide +kernel⟩, List.mem_of_getElem? (i := 637) (by decide +kernel), List.mem_of_getElem? (i := 806) (by decide +kernel), List.mem_of_getElem? (i := 807) (by decide +kernel)⟩
theorem lw_p23 : lw_okq (⟨"RiversQueueModel", "pushes", "(II)Z"⟩, 34) := ⟨⟨by decide +kernel, by decide +kernel⟩, List.mem_of_getElem? (i := 637) (by decide +kernel), List.mem_of_getElem? (i := 810) (by decide +kernel), List.mem_of_getElem? (i := 811) (by decide +kernel)⟩
theorem lw_p24 : lw_okq (⟨"RiversQueueModel", "goBehind", "(I)V"⟩, 34) := ⟨⟨by decide +kernel, by decide +kernel⟩, List.mem_of_getElem? (i := 637) (by decide +kernel), List.mem_of_getElem? (i := 814) (by decide +kernel), List.mem_of_getElem? (i := 815) (by decide +kernel)⟩
theorem lw_p25 : lw_okq (⟨"RiversQueueModel", "layBack", "()V"⟩, 34) := ⟨⟨by decide +kernel, by decide +kernel⟩, List.mem_of_getElem? (i := 637) (by decide +kernel), List.mem_of_getElem? (i := 818) (by decide +kernel), List.mem_of_getElem? (i := 819) (by decide +kernel)⟩
theorem lw_p26 : lw_okq (⟨"RiversQueueModel", "muchOf", "(I)I"⟩, 34) := ⟨⟨by decide +kernel, by decide +kernel⟩, List.mem_of_getElem? (i := 637) (by decide +kernel), List.mem_of_getElem? (i := 822) (by decide +kernel), List.mem_of_getElem? (i := 823) (by decide +kernel)⟩
theorem lw_p27 : lw_okq (⟨"RiversQueueModel", "layThen", "(II)V"⟩, 34) := ⟨⟨by decide +kernel, by decide +kernel⟩, List.mem_of_getElem? (i := 637) (by decide +kernel), List.mem_of_getElem? (i := 826) (by decide +kernel), List.mem_of_getElem? (i := 827) (by decide +kernel)⟩
theorem lw_p28 : lw_okq (⟨"RiversQueueModel", "lookOf", "(I)I"⟩, 34) := ⟨⟨by decide +kernel, by decide +kernel⟩, List.mem_of_getElem? (i := 637) (by decide +kernel), List.mem_of_getElem? (i := 830) (by decide +kernel), List.mem_of_getElem? (i := 831) (by decide +kernel)⟩
theorem lw_p29 : lw_okq (⟨"RiversQueueModel", "lacks", "()Z"⟩, 34) := ⟨⟨by decide +kernel, by decide +kernel⟩, List.mem_of_getElem? (i := 637) (by decide +kernel), List.mem_of_getElem? (i := 847) (by decide +kernel), List.mem_of_getElem? (i := 848) (by decide +kernel)⟩
theorem lw_p30 : lw_okq (⟨"RiversQueueModel", "rains", "(II)I"⟩, 34) := ⟨⟨by decide +kernel, by decide +kernel⟩, List.mem_of_getElem? (i := 637) (by decide +kernel), List.mem_of_getElem? (i := 856) (by decide +kernel), List.mem_of_getElem? (i := 857) (by decide +kernel)⟩
theorem lw_p31 : lw_okq (⟨"RiversQueueModel", "wideOf", "(II)I"⟩, 34) := ⟨⟨by decide +kernel, by decide +kernel⟩, List.mem_of_getElem? (i := 637) (by decide +kernel), List.mem_of_getElem? (i := 869) (by decide +kernel), List.mem_of_getElem? (i := 870) (by decide +kernel)⟩
def lw_privs_2 : List (MethodName × Nat) := [(⟨"RiversQueueModel", "go", "(I)Z"⟩, 34), (⟨"RiversQueueModel", "isRiver", "(I)Z"⟩, 34), (⟨"RiversQueueModel", "tell", "(II)I"⟩, 34), (⟨"RiversQueueModel", "placeOf", "(I)I"⟩, 34), (⟨"RiversQueueModel", "waitsOf", "(I)I"⟩, 34), (⟨"RiversQueueModel", "layAside", "()V"⟩, 34), (⟨"RiversQueueModel", "goesBy", "()V"⟩, 34), (⟨"RiversQueueModel", "pushes", "(II)Z"⟩, 34), (⟨"RiversQueueModel", "goBehind", "(I)V"⟩, 34), (⟨"RiversQueueModel", "layBack", "()V"⟩, 34), (⟨"RiversQueueModel", "muchOf", "(I)I"⟩, 34), (⟨"RiversQueueModel", "layThen", "(II)V"⟩, 34), (⟨"RiversQueueModel", "lookOf", "(I)I"⟩, 34), (⟨"RiversQueueModel", "lacks", "()Z"⟩, 34), (⟨"RiversQueueModel", "rains", "(II)I"⟩, 34), (⟨"RiversQueueModel", "wideOf", "(II)I"⟩, 34)]
theorem lw_r2 : ∀ q ∈ lw_privs_2, lw_okq q := List.forall_mem_cons.mpr ⟨lw_p16, List.forall_mem_cons.mpr ⟨lw_p17, List.forall_mem_cons.mpr ⟨lw_p18, List.forall_mem_cons.mpr ⟨lw_p19, List.forall_mem_cons.mpr ⟨lw_p20, List.forall_mem_cons.mpr ⟨lw_p21, List.forall_mem_cons.mpr ⟨lw_p22, List.forall_mem_cons.mpr ⟨lw_p23, List.forall_mem_cons.mpr ⟨lw_p24, List.forall_mem_cons.mpr ⟨lw_p25, List.forall_mem_cons.mpr ⟨lw_p26, List.forall_mem_cons.mpr ⟨lw_p27, List.forall_mem_cons.mpr ⟨lw_p28, List.forall_mem_cons.mpr ⟨lw_p29, List.forall_mem_cons.mpr ⟨lw_p30, List.forall_mem_cons.mpr ⟨lw_p31, fun _ h => absurd h List.not_mem_nil⟩⟩⟩⟩⟩⟩⟩⟩⟩⟩⟩⟩⟩⟩⟩⟩
theorem lw_p32 : lw_okq (⟨"RiversQueueModel", "standing", "()I"⟩, 34) := ⟨⟨by decide +kernel, by decide +kernel⟩, List.mem_of_getElem? (i := 637) (by decide +kernel), List.mem_of_getElem? (i := 873) (by decide +kernel), List.mem_of_getElem? (i := 874) (by decide +kernel)⟩
theorem lw_p33 : lw_okq (⟨"RiversQueueModel", "layBest", "()I"⟩, 34) := ⟨⟨by decide +kernel, by decide +kernel⟩, List.mem_of_getElem? (i := 637) (by decide +kernel), List.mem_of_getElem? (i := 883) (by decide +kernel), List.mem_of_getElem? (i := 884) (by decide +kernel)⟩
theorem lw_p34 : lw_okq (⟨"RiversQueueModel", "layStands", "(I)Z"⟩, 34) := ⟨⟨by decide +kernel, by decide +kernel⟩, List.mem_of_getElem? (i := 637) (by decide +kernel), List.mem_of_getElem? (i := 887) (by decide +kernel), List.mem_of_getElem? (i := 888) (by decide +kernel)⟩
theorem lw_p35 : lw_okq (⟨"RiversQueueModel", "draw", "(I)I"⟩, 34) := ⟨⟨by decide +kernel, by decide +kernel⟩, List.mem_of_getElem? (i := 637) (by decide +kernel), List.mem_of_getElem? (i := 905) (by decide +kernel), List.mem_of_getElem? (i := 906) (by decide +kernel)⟩
theorem lw_p36 : lw_okq (⟨"RiversQueueModel", "countOf", "(I)I"⟩, 34) := ⟨⟨by decide +kernel, by decide +kernel⟩, List.mem_of_getElem? (i := 637) (by decide +kernel), List.mem_of_getElem? (i := 925) (by decide +kernel), List.mem_of_getElem? (i := 926) (by decide +kernel)⟩
theorem lw_p37 : lw_okq (⟨"RiversQueueModel", "takenAll", "()I"⟩, 34) := ⟨⟨by decide +kernel, by decide +kernel⟩, List.mem_of_getElem? (i := 637) (by decide +kernel), List.mem_of_getElem? (i := 929) (by decide +kernel), List.mem_of_getElem? (i := 930) (by decide +kernel)⟩
theorem lw_p38 : lw_okq (⟨"RiversQueueModel", "say", "(J)V"⟩, 34) := ⟨⟨by decide +kernel, by decide +kernel⟩, List.mem_of_getElem? (i := 637) (by decide +kernel), List.mem_of_getElem? (i := 938) (by decide +kernel), List.mem_of_getElem? (i := 939) (by decide +kernel)⟩
def lw_privs_3 : List (MethodName × Nat) := [(⟨"RiversQueueModel", "standing", "()I"⟩, 34), (⟨"RiversQueueModel", "layBest", "()I"⟩, 34), (⟨"RiversQueueModel", "layStands", "(I)Z"⟩, 34), (⟨"RiversQueueModel", "draw", "(I)I"⟩, 34), (⟨"RiversQueueModel", "countOf", "(I)I"⟩, 34), (⟨"RiversQueueModel", "takenAll", "()I"⟩, 34), (⟨"RiversQueueModel", "say", "(J)V"⟩, 34)]
theorem lw_r3 : ∀ q ∈ lw_privs_3, lw_okq q := List.forall_mem_cons.mpr ⟨lw_p32, List.forall_mem_cons.mpr ⟨lw_p33, List.forall_mem_cons.mpr ⟨lw_p34, List.forall_mem_cons.mpr ⟨lw_p35, List.forall_mem_cons.mpr ⟨lw_p36, List.forall_mem_cons.mpr ⟨lw_p37, List.forall_mem_cons.mpr ⟨lw_p38, fun _ h => absurd h List.not_mem_nil⟩⟩⟩⟩⟩⟩⟩
def lw_privs : List (MethodName × Nat) := lw_privs_1 ++ (lw_privs_2 ++ (lw_privs_3))
def lw_tbl : List Cond := k2_sels lw_privs ++ tables_1
theorem lw_privs_ok : ∀ q ∈ lw_privs, lw_okq q := by
  show ∀ q ∈ lw_privs_1 ++ (lw_privs_2 ++ (lw_privs_3)), lw_okq q
  exact List.forall_mem_append.mpr ⟨lw_r1, List.forall_mem_append.mpr ⟨lw_r2, lw_r3⟩⟩
end
section
/-! ===== BEGIN words of one list among another's, by their places ===== -/
theorem goodIn_r {big : List Cond} (ws : List Cond) (ps : List Nat) (hp : ws = ps.filterMap (fun i => big[i]?)) (h : ws.all goodWord = true) : GoodIn big ws := by
  intro w hw
  have h1 := List.all_eq_true.mp h w hw
  rw [hp] at hw
  obtain ⟨i, -, hi⟩ := List.mem_filterMap.mp hw
  have hm : w ∈ big := by first | exact List.mem_of_getElem? hi | exact List.getElem?_mem hi
  exact ⟨hm, good_of_word h1⟩
theorem goodIn_app {big a b : List Cond} (ha : GoodIn big a) (hb : GoodIn big b) : GoodIn big (a ++ b) := fun w h => (List.mem_append.mp h).elim (ha w) (hb w)
theorem goodIn_ca {big a b : List Cond} {c : Cond} (ha : GoodIn big (c :: a)) (hb : GoodIn big b) : GoodIn big (c :: (a ++ b)) := fun w h => (List.mem_cons.mp h).elim (fun e => ha w (List.mem_cons.mpr (Or.inl e))) (fun h => (List.mem_append.mp h).elim (fun h => ha w (List.mem_cons.mpr (Or.inr h))) (hb w))
theorem goodIn_sub {big ws : List Cond} (hm : ∀ w ∈ ws, w ∈ big) (h : ws.all goodWord = true) : GoodIn big ws := fun w hw => ⟨hm w hw, good_of_word (List.all_eq_true.mp h w hw)⟩
/-! ===== END ===== -/

/-! ===== names ===== -/
def RX0 : String := "RiversQueue$BestOrder"
def TX0 : u_T := fun k => match k with
  | 0 => ("RiversQueue$BestOrder", "coast", "LRiversQueue$Coast;", true)
  | 1 => ("RiversQueue$BestOrder", "now", "LRiversQueue$Shore;", true)
  | 2 => ("RiversQueue$BestOrder", "trial", "LRiversQueue$Shore;", true)
  | 3 => ("RiversQueue$BestOrder", "order", "[I", true)
  | 4 => ("RiversQueue$BestOrder", "found", "[I", true)
  | _ => ("RiversQueue$BestOrder", "least", "I", false)
def tyX0 : Nat → FieldType := fun k => match k with
  | 0 => .object "RiversQueue$Coast"
  | 1 => .object "RiversQueue$Shore"
  | 2 => .object "RiversQueue$Shore"
  | 3 => .array .int
  | 4 => .array .int
  | _ => .int
abbrev wsX00 : List Cond := u_ws RX0 TX0 6
theorem nmX0 : ∀ a, a < 6 → ∀ b, b < 6 → a ≠ b → (TX0 a).2.1 ≠ (TX0 b).2.1 := by decide +kernel
theorem tyX0_ok : ∀ k, k < 6 → parseFieldDescriptor (TX0 k).2.2.1 = some (tyX0 k) := by decide +kernel
abbrev cX0_init : ByteArray := prog_2_method_1_code
def yX0_init : MethodName := ⟨RX0, "<init>", "(LRiversQueue$Coast;LRiversQueue$Shore;)V"⟩
abbrev cX0_find : ByteArray := prog_2_method_2_code
def yX0_find : MethodName := ⟨RX0, "find", "()V"⟩
abbrev cX0_keepAsFound : ByteArray := prog_2_method_3_code
def yX0_keepAsFound : MethodName := ⟨RX0, "keepAsFound", "(I)V"⟩
abbrev cX0_waterBehindOrder : ByteArray := prog_2_method_4_code
def yX0_waterBehindOrder : MethodName := ⟨RX0, "waterBehindOrder", "()I"⟩
abbrev cX0_goToNextOrder : ByteArray := prog_2_method_5_code
def yX0_goToNextOrder : MethodName := ⟨RX0, "goToNextOrder", "()Z"⟩
abbrev cX0_swap : ByteArray := prog_2_method_6_code
def yX0_swap : MethodName := ⟨RX0, "swap", "(II)V"⟩
def RX1 : String := "RiversQueue$Coast"
def TX1 : u_T := fun k => match k with
  | 0 => ("RiversQueue$Coast", "kinds", "[I", true)
  | 1 => ("RiversQueue$Coast", "flows", "[I", true)
  | 2 => ("RiversQueue$Coast", "rivers", "I", false)
  | _ => ("RiversQueue$Coast", "bar", "I", false)
def tyX1 : Nat → FieldType := fun k => match k with
  | 0 => .array .int
  | 1 => .array .int
  | 2 => .int
  | _ => .int
abbrev wsX10 : List Cond := u_ws RX1 TX1 4
theorem nmX1 : ∀ a, a < 4 → ∀ b, b < 4 → a ≠ b → (TX1 a).2.1 ≠ (TX1 b).2.1 := by decide +kernel
theorem tyX1_ok : ∀ k, k < 4 → parseFieldDescriptor (TX1 k).2.2.1 = some (tyX1 k) := by decide +kernel
abbrev cX1_init : ByteArray := prog_3_method_1_code
def yX1_init : MethodName := ⟨RX1, "<init>", "()V"⟩
abbrev cX1_readFrom : ByteArray := prog_3_method_2_code
def yX1_readFrom : MethodName := ⟨RX1, "readFrom", "(LRiversQueue$Page;)V"⟩
abbrev cX1_isRead : ByteArray := prog_3_method_3_code
def yX1_isRead : MethodName := ⟨RX1, "isRead", "()Z"⟩
abbrev cX1_hasRiver : ByteArray := prog_3_method_4_code
def yX1_hasRiver : MethodName := ⟨RX1, "hasRiver", "(I)Z"⟩
def RX2 : String := "RiversQueue$Draws"
def TX2 : u_T := fun k => match k with
  | _ => ("RiversQueue$Draws", "seed", "I", false)
def tyX2 : Nat → FieldType := fun k => match k with
  | _ => .int
abbrev wsX20 : List Cond := u_ws RX2 TX2 1
theorem nmX2 : ∀ a, a < 1 → ∀ b, b < 1 → a ≠ b → (TX2 a).2.1 ≠ (TX2 b).2.1 := by decide +kernel
theorem tyX2_ok : ∀ k, k < 1 → parseFieldDescriptor (TX2 k).2.2.1 = some (tyX2 k) := by decide +kernel
abbrev cX2_init : ByteArray := prog_4_method_1_code
def yX2_init : MethodName := ⟨RX2, "<init>", "()V"⟩
abbrev cX2_next : ByteArray := prog_4_method_2_code
def yX2_next : MethodName := ⟨RX2, "next", "(I)I"⟩
def RX3 : String := "RiversQueue$Forecast"
def TX3 : u_T := fun k => match k with
  | 0 => ("RiversQueue$Forecast", "coast", "LRiversQueue$Coast;", true)
  | 1 => ("RiversQueue$Forecast", "now", "LRiversQueue$Shore;", true)
  | 2 => ("RiversQueue$Forecast", "seen", "LRiversQueue$Sightings;", true)
  | 3 => ("RiversQueue$Forecast", "trial", "LRiversQueue$Shore;", true)
  | 4 => ("RiversQueue$Forecast", "draws", "LRiversQueue$Draws;", true)
  | 5 => ("RiversQueue$Forecast", "takenOf", "[I", true)
  | _ => ("RiversQueue$Forecast", "takes", "[I", true)
def tyX3 : Nat → FieldType := fun k => match k with
  | 0 => .object "RiversQueue$Coast"
  | 1 => .object "RiversQueue$Shore"
  | 2 => .object "RiversQueue$Sightings"
  | 3 => .object "RiversQueue$Shore"
  | 4 => .object "RiversQueue$Draws"
  | 5 => .array .int
  | _ => .array .int
abbrev wsX30 : List Cond := u_ws RX3 TX3 7
theorem nmX3 : ∀ a, a < 7 → ∀ b, b < 7 → a ≠ b → (TX3 a).2.1 ≠ (TX3 b).2.1 := by decide +kernel
theorem tyX3_ok : ∀ k, k < 7 → parseFieldDescriptor (TX3 k).2.2.1 = some (tyX3 k) := by decide +kernel
abbrev cX3_init : ByteArray := prog_5_method_1_code
def yX3_init : MethodName := ⟨RX3, "<init>", "(LRiversQueue$Coast;LRiversQueue$Shore;LRiversQueue$Sightings;)V"⟩
abbrev cX3_waitsOf : ByteArray := prog_5_method_2_code
def yX3_waitsOf : MethodName := ⟨RX3, "waitsOf", "(I)I"⟩
abbrev cX3_widestHour : ByteArray := prog_5_method_3_code
def yX3_widestHour : MethodName := ⟨RX3, "widestHour", "(I)I"⟩
abbrev cX3_waterBehind : ByteArray := prog_5_method_4_code
def yX3_waterBehind : MethodName := ⟨RX3, "waterBehind", "(I)I"⟩
abbrev cX3_possibleWaters : ByteArray := prog_5_method_5_code
def yX3_possibleWaters : MethodName := ⟨RX3, "possibleWaters", "(I)I"⟩
abbrev cX3_hourToLook : ByteArray := prog_5_method_6_code
def yX3_hourToLook : MethodName := ⟨RX3, "hourToLook", "(I)I"⟩
abbrev cX3_passSeasons : ByteArray := prog_5_method_7_code
def yX3_passSeasons : MethodName := ⟨RX3, "passSeasons", "(II)I"⟩
abbrev cX3_addTakes : ByteArray := prog_5_method_8_code
def yX3_addTakes : MethodName := ⟨RX3, "addTakes", "(I)V"⟩
abbrev cX3_hourThatParts : ByteArray := prog_5_method_9_code
def yX3_hourThatParts : MethodName := ⟨RX3, "hourThatParts", "(I)I"⟩
abbrev cX3_isPossible : ByteArray := prog_5_method_10_code
def yX3_isPossible : MethodName := ⟨RX3, "isPossible", "(II)Z"⟩
def RX4 : String := "RiversQueue$Page"
def TX4 : u_T := fun k => match k with
  | 0 => ("RiversQueue$Page", "letters", "[I", true)
  | _ => ("RiversQueue$Page", "size", "I", false)
def tyX4 : Nat → FieldType := fun k => match k with
  | 0 => .array .int
  | _ => .int
abbrev wsX40 : List Cond := u_ws RX4 TX4 2
theorem nmX4 : ∀ a, a < 2 → ∀ b, b < 2 → a ≠ b → (TX4 a).2.1 ≠ (TX4 b).2.1 := by decide +kernel
theorem tyX4_ok : ∀ k, k < 2 → parseFieldDescriptor (TX4 k).2.2.1 = some (tyX4 k) := by decide +kernel
abbrev cX4_init : ByteArray := prog_6_method_1_code
def yX4_init : MethodName := ⟨RX4, "<init>", "()V"⟩
abbrev cX4_isFull : ByteArray := prog_6_method_2_code
def yX4_isFull : MethodName := ⟨RX4, "isFull", "()Z"⟩
abbrev cX4_write : ByteArray := prog_6_method_3_code
def yX4_write : MethodName := ⟨RX4, "write", "(I)I"⟩
abbrev cX4_clear : ByteArray := prog_6_method_4_code
def yX4_clear : MethodName := ⟨RX4, "clear", "()I"⟩
abbrev cX4_firstFault : ByteArray := prog_6_method_5_code
def yX4_firstFault : MethodName := ⟨RX4, "firstFault", "()I"⟩
abbrev cX4_holdsCoast : ByteArray := prog_6_method_6_code
def yX4_holdsCoast : MethodName := ⟨RX4, "holdsCoast", "()Z"⟩
abbrev cX4_rivers : ByteArray := prog_6_method_7_code
def yX4_rivers : MethodName := ⟨RX4, "rivers", "()I"⟩
abbrev cX4_kindAt : ByteArray := prog_6_method_8_code
def yX4_kindAt : MethodName := ⟨RX4, "kindAt", "(I)I"⟩
abbrev cX4_waterAt : ByteArray := prog_6_method_9_code
def yX4_waterAt : MethodName := ⟨RX4, "waterAt", "(I)I"⟩
abbrev cX4_flowAt : ByteArray := prog_6_method_10_code
def yX4_flowAt : MethodName := ⟨RX4, "flowAt", "(I)I"⟩
abbrev cX4_lastDigit : ByteArray := prog_6_method_11_code
def yX4_lastDigit : MethodName := ⟨RX4, "lastDigit", "()I"⟩
abbrev cX4_fits : ByteArray := prog_6_method_12_code
def yX4_fits : MethodName := ⟨RX4, "fits", "(I)Z"⟩
abbrev cX4_fitsBehindRiver : ByteArray := prog_6_method_13_code
def yX4_fitsBehindRiver : MethodName := ⟨RX4, "fitsBehindRiver", "(II)Z"⟩
abbrev cX4_standsBehindEnd : ByteArray := prog_6_method_14_code
def yX4_standsBehindEnd : MethodName := ⟨RX4, "standsBehindEnd", "(I)Z"⟩
abbrev cX4_codeAt : ByteArray := prog_6_method_15_code
def yX4_codeAt : MethodName := ⟨RX4, "codeAt", "(I)I"⟩
def RX5 : String := "RiversQueue$Shore"
def TX5 : u_T := fun k => match k with
  | 0 => ("RiversQueue$Shore", "coast", "LRiversQueue$Coast;", true)
  | 1 => ("RiversQueue$Shore", "water", "[I", true)
  | 2 => ("RiversQueue$Shore", "took", "[I", true)
  | 3 => ("RiversQueue$Shore", "row", "[I", true)
  | 4 => ("RiversQueue$Shore", "hours", "I", false)
  | _ => ("RiversQueue$Shore", "takenOf", "I", false)
def tyX5 : Nat → FieldType := fun k => match k with
  | 0 => .object "RiversQueue$Coast"
  | 1 => .array .int
  | 2 => .array .int
  | 3 => .array .int
  | 4 => .int
  | _ => .int
abbrev wsX50 : List Cond := u_ws RX5 TX5 6
theorem nmX5 : ∀ a, a < 6 → ∀ b, b < 6 → a ≠ b → (TX5 a).2.1 ≠ (TX5 b).2.1 := by decide +kernel
theorem tyX5_ok : ∀ k, k < 6 → parseFieldDescriptor (TX5 k).2.2.1 = some (tyX5 k) := by decide +kernel
abbrev cX5_init : ByteArray := prog_7_method_1_code
def yX5_init : MethodName := ⟨RX5, "<init>", "(LRiversQueue$Coast;)V"⟩
abbrev cX5_beginAs : ByteArray := prog_7_method_2_code
def yX5_beginAs : MethodName := ⟨RX5, "beginAs", "(LRiversQueue$Page;)V"⟩
abbrev cX5_copyFrom : ByteArray := prog_7_method_3_code
def yX5_copyFrom : MethodName := ⟨RX5, "copyFrom", "(LRiversQueue$Shore;)V"⟩
abbrev cX5_waterInAll : ByteArray := prog_7_method_4_code
def yX5_waterInAll : MethodName := ⟨RX5, "waterInAll", "()I"⟩
abbrev cX5_tookInAll : ByteArray := prog_7_method_5_code
def yX5_tookInAll : MethodName := ⟨RX5, "tookInAll", "()I"⟩
abbrev cX5_placeOf : ByteArray := prog_7_method_6_code
def yX5_placeOf : MethodName := ⟨RX5, "placeOf", "(I)I"⟩
abbrev cX5_passHour : ByteArray := prog_7_method_7_code
def yX5_passHour : MethodName := ⟨RX5, "passHour", "()I"⟩
abbrev cX5_addWater : ByteArray := prog_7_method_8_code
def yX5_addWater : MethodName := ⟨RX5, "addWater", "(II)I"⟩
abbrev cX5_dryUp : ByteArray := prog_7_method_9_code
def yX5_dryUp : MethodName := ⟨RX5, "dryUp", "(I)I"⟩
abbrev cX5_pushAll : ByteArray := prog_7_method_10_code
def yX5_pushAll : MethodName := ⟨RX5, "pushAll", "()V"⟩
abbrev cX5_pushes : ByteArray := prog_7_method_11_code
def yX5_pushes : MethodName := ⟨RX5, "pushes", "(II)Z"⟩
abbrev cX5_feedSea : ByteArray := prog_7_method_12_code
def yX5_feedSea : MethodName := ⟨RX5, "feedSea", "()I"⟩
abbrev cX5_sendBehindAll : ByteArray := prog_7_method_13_code
def yX5_sendBehindAll : MethodName := ⟨RX5, "sendBehindAll", "(I)V"⟩
abbrev cX5_sumOfRivers : ByteArray := prog_7_method_14_code
def yX5_sumOfRivers : MethodName := ⟨RX5, "sumOfRivers", "([I)I"⟩
def RX6 : String := "RiversQueue$Sightings"
def TX6 : u_T := fun k => match k with
  | 0 => ("RiversQueue$Sightings", "hours", "[I", true)
  | 1 => ("RiversQueue$Sightings", "rivers", "[I", true)
  | 2 => ("RiversQueue$Sightings", "taken", "[Z", true)
  | _ => ("RiversQueue$Sightings", "size", "I", false)
def tyX6 : Nat → FieldType := fun k => match k with
  | 0 => .array .int
  | 1 => .array .int
  | 2 => .array .boolean
  | _ => .int
abbrev wsX60 : List Cond := u_ws RX6 TX6 4
theorem nmX6 : ∀ a, a < 4 → ∀ b, b < 4 → a ≠ b → (TX6 a).2.1 ≠ (TX6 b).2.1 := by decide +kernel
theorem tyX6_ok : ∀ k, k < 4 → parseFieldDescriptor (TX6 k).2.2.1 = some (tyX6 k) := by decide +kernel
abbrev cX6_init : ByteArray := prog_8_method_1_code
def yX6_init : MethodName := ⟨RX6, "<init>", "()V"⟩
abbrev cX6_isFull : ByteArray := prog_8_method_2_code
def yX6_isFull : MethodName := ⟨RX6, "isFull", "()Z"⟩
abbrev cX6_add : ByteArray := prog_8_method_3_code
def yX6_add : MethodName := ⟨RX6, "add", "(IIZ)I"⟩
abbrev cX6_clear : ByteArray := prog_8_method_4_code
def yX6_clear : MethodName := ⟨RX6, "clear", "()I"⟩
abbrev cX6_copyFrom : ByteArray := prog_8_method_5_code
def yX6_copyFrom : MethodName := ⟨RX6, "copyFrom", "(LRiversQueue$Sightings;)V"⟩
abbrev cX6_agreeWith : ByteArray := prog_8_method_6_code
def yX6_agreeWith : MethodName := ⟨RX6, "agreeWith", "([I)Z"⟩
def RX7 : String := "RiversQueue"
def TX7 : u_T := fun k => match k with
  | 0 => ("RiversQueue", "page", "LRiversQueue$Page;", true)
  | 1 => ("RiversQueue", "coast", "LRiversQueue$Coast;", true)
  | 2 => ("RiversQueue", "now", "LRiversQueue$Shore;", true)
  | 3 => ("RiversQueue", "seen", "LRiversQueue$Sightings;", true)
  | 4 => ("RiversQueue", "keptShore", "LRiversQueue$Shore;", true)
  | 5 => ("RiversQueue", "keptSeen", "LRiversQueue$Sightings;", true)
  | 6 => ("RiversQueue", "forecast", "LRiversQueue$Forecast;", true)
  | 7 => ("RiversQueue", "bestOrder", "LRiversQueue$BestOrder;", true)
  | 8 => ("RiversQueue", "imageKept", "Z", false)
  | 9 => ("RiversQueue", "coastsRead", "I", false)
  | _ => ("RiversQueue", "bestsDone", "I", false)
def tyX7 : Nat → FieldType := fun k => match k with
  | 0 => .object "RiversQueue$Page"
  | 1 => .object "RiversQueue$Coast"
  | 2 => .object "RiversQueue$Shore"
  | 3 => .object "RiversQueue$Sightings"
  | 4 => .object "RiversQueue$Shore"
  | 5 => .object "RiversQueue$Sightings"
  | 6 => .object "RiversQueue$Forecast"
  | 7 => .object "RiversQueue$BestOrder"
  | 8 => .boolean
  | 9 => .int
  | _ => .int
abbrev wsX70 : List Cond := u_ws RX7 TX7 11
theorem nmX7 : ∀ a, a < 11 → ∀ b, b < 11 → a ≠ b → (TX7 a).2.1 ≠ (TX7 b).2.1 := by decide +kernel
theorem tyX7_ok : ∀ k, k < 11 → parseFieldDescriptor (TX7 k).2.2.1 = some (tyX7 k) := by decide +kernel
abbrev cX7_init : ByteArray := prog_1_method_1_code
def yX7_init : MethodName := ⟨RX7, "<init>", "()V"⟩
abbrev cX7_letter : ByteArray := prog_1_method_2_code
def yX7_letter : MethodName := ⟨RX7, "letter", "(I)I"⟩
abbrev cX7_blank : ByteArray := prog_1_method_3_code
def yX7_blank : MethodName := ⟨RX7, "blank", "()I"⟩
abbrev cX7_fault : ByteArray := prog_1_method_4_code
def yX7_fault : MethodName := ⟨RX7, "fault", "()I"⟩
abbrev cX7_coast : ByteArray := prog_1_method_5_code
def yX7_coast : MethodName := ⟨RX7, "coast", "()I"⟩
abbrev cX7_river : ByteArray := prog_1_method_6_code
def yX7_river : MethodName := ⟨RX7, "river", "(II)I"⟩
abbrev cX7_as : ByteArray := prog_1_method_7_code
def yX7_as : MethodName := ⟨RX7, "as", "(II)I"⟩
abbrev cX7_row : ByteArray := prog_1_method_8_code
def yX7_row : MethodName := ⟨RX7, "row", "(I)I"⟩
abbrev cX7_hour : ByteArray := prog_1_method_9_code
def yX7_hour : MethodName := ⟨RX7, "hour", "()I"⟩
abbrev cX7_rain : ByteArray := prog_1_method_10_code
def yX7_rain : MethodName := ⟨RX7, "rain", "(II)I"⟩
abbrev cX7_drought : ByteArray := prog_1_method_11_code
def yX7_drought : MethodName := ⟨RX7, "drought", "(I)I"⟩
abbrev cX7_wide : ByteArray := prog_1_method_12_code
def yX7_wide : MethodName := ⟨RX7, "wide", "(II)I"⟩
abbrev cX7_best : ByteArray := prog_1_method_13_code
def yX7_best : MethodName := ⟨RX7, "best", "(I)I"⟩
abbrev cX7_see : ByteArray := prog_1_method_14_code
def yX7_see : MethodName := ⟨RX7, "see", "(IIZ)I"⟩
abbrev cX7_forget : ByteArray := prog_1_method_15_code
def yX7_forget : MethodName := ⟨RX7, "forget", "()I"⟩
abbrev cX7_seasons : ByteArray := prog_1_method_16_code
def yX7_seasons : MethodName := ⟨RX7, "seasons", "(III)I"⟩
abbrev cX7_image : ByteArray := prog_1_method_17_code
def yX7_image : MethodName := ⟨RX7, "image", "()I"⟩
abbrev cX7_restore : ByteArray := prog_1_method_18_code
def yX7_restore : MethodName := ⟨RX7, "restore", "()I"⟩
abbrev cX7_count : ByteArray := prog_1_method_19_code
def yX7_count : MethodName := ⟨RX7, "count", "(I)I"⟩
abbrev cX7_digest : ByteArray := prog_1_method_20_code
def yX7_digest : MethodName := ⟨RX7, "digest", "()J"⟩
abbrev cX7_mixed : ByteArray := prog_1_method_21_code
def yX7_mixed : MethodName := ⟨RX7, "mixed", "(JJ)J"⟩
abbrev cX7_within : ByteArray := prog_1_method_22_code
def yX7_within : MethodName := ⟨RX7, "within", "(III)Z"⟩
abbrev cX7_isSuch : ByteArray := prog_1_method_23_code
def yX7_isSuch : MethodName := ⟨RX7, "isSuch", "(II)Z"⟩
def RX8 : String := "RiversQueueModel"
def TX8 : u_T := fun k => match k with
  | 0 => ("RiversQueueModel", "page", "[I", true)
  | 1 => ("RiversQueueModel", "pageMany", "I", false)
  | 2 => ("RiversQueueModel", "read", "[I", true)
  | 3 => ("RiversQueueModel", "readMany", "I", false)
  | 4 => ("RiversQueueModel", "readBar", "I", false)
  | 5 => ("RiversQueueModel", "state", "I", false)
  | 6 => ("RiversQueueModel", "many", "I", false)
  | 7 => ("RiversQueueModel", "bar", "I", false)
  | 8 => ("RiversQueueModel", "hoursNow", "I", false)
  | 9 => ("RiversQueueModel", "coastsRead", "I", false)
  | 10 => ("RiversQueueModel", "kinds", "[I", true)
  | 11 => ("RiversQueueModel", "flows", "[I", true)
  | 12 => ("RiversQueueModel", "waters", "[I", true)
  | 13 => ("RiversQueueModel", "stands", "[I", true)
  | 14 => ("RiversQueueModel", "taken", "[I", true)
  | 15 => ("RiversQueueModel", "tookOf", "I", false)
  | 16 => ("RiversQueueModel", "tookMuch", "I", false)
  | 17 => ("RiversQueueModel", "savedWaters", "[I", true)
  | 18 => ("RiversQueueModel", "savedStands", "[I", true)
  | 19 => ("RiversQueueModel", "bestDone", "I", false)
  | 20 => ("RiversQueueModel", "bestStands", "[I", true)
  | 21 => ("RiversQueueModel", "seenMany", "I", false)
  | 22 => ("RiversQueueModel", "sights", "[I", true)
  | 23 => ("RiversQueueModel", "tookThen", "[I", true)
  | 24 => ("RiversQueueModel", "yes", "[I", true)
  | 25 => ("RiversQueueModel", "seedNow", "I", false)
  | 26 => ("RiversQueueModel", "keptCoast", "I", false)
  | 27 => ("RiversQueueModel", "keptHours", "I", false)
  | 28 => ("RiversQueueModel", "keptSeen", "I", false)
  | 29 => ("RiversQueueModel", "keptWaters", "[I", true)
  | 30 => ("RiversQueueModel", "keptStands", "[I", true)
  | 31 => ("RiversQueueModel", "keptTaken", "[I", true)
  | 32 => ("RiversQueueModel", "keptSights", "[I", true)
  | _ => ("RiversQueueModel", "hash", "J", false)
def tyX8 : Nat → FieldType := fun k => match k with
  | 0 => .array .int
  | 1 => .int
  | 2 => .array .int
  | 3 => .int
  | 4 => .int
  | 5 => .int
  | 6 => .int
  | 7 => .int
  | 8 => .int
  | 9 => .int
  | 10 => .array .int
  | 11 => .array .int
  | 12 => .array .int
  | 13 => .array .int
  | 14 => .array .int
  | 15 => .int
  | 16 => .int
  | 17 => .array .int
  | 18 => .array .int
  | 19 => .int
  | 20 => .array .int
  | 21 => .int
  | 22 => .array .int
  | 23 => .array .int
  | 24 => .array .int
  | 25 => .int
  | 26 => .int
  | 27 => .int
  | 28 => .int
  | 29 => .array .int
  | 30 => .array .int
  | 31 => .array .int
  | 32 => .array .int
  | _ => .long
abbrev wsX80 : List Cond := u_ws RX8 TX8 34
theorem nmX8 : ∀ a, a < 34 → ∀ b, b < 34 → a ≠ b → (TX8 a).2.1 ≠ (TX8 b).2.1 := by decide +kernel
theorem tyX8_ok : ∀ k, k < 34 → parseFieldDescriptor (TX8 k).2.2.1 = some (tyX8 k) := by decide +kernel
abbrev cX8_init : ByteArray := prog_10_method_1_code
def yX8_init : MethodName := ⟨RX8, "<init>", "()V"⟩
abbrev cX8_in : ByteArray := prog_10_method_2_code
def yX8_in : MethodName := ⟨RX8, "in", "(JJJ)Z"⟩
abbrev cX8_copy : ByteArray := prog_10_method_3_code
def yX8_copy : MethodName := ⟨RX8, "copy", "([I[I)V"⟩
abbrev cX8_letter : ByteArray := prog_10_method_4_code
def yX8_letter : MethodName := ⟨RX8, "letter", "(I)I"⟩
abbrev cX8_blank : ByteArray := prog_10_method_5_code
def yX8_blank : MethodName := ⟨RX8, "blank", "()I"⟩
abbrev cX8_kindBy : ByteArray := prog_10_method_6_code
def yX8_kindBy : MethodName := ⟨RX8, "kindBy", "(I)I"⟩
abbrev cX8_go : ByteArray := prog_10_method_7_code
def yX8_go : MethodName := ⟨RX8, "go", "(I)Z"⟩
abbrev cX8_faultOf : ByteArray := prog_10_method_8_code
def yX8_faultOf : MethodName := ⟨RX8, "faultOf", "()I"⟩
abbrev cX8_fault : ByteArray := prog_10_method_9_code
def yX8_fault : MethodName := ⟨RX8, "fault", "()I"⟩
abbrev cX8_coast : ByteArray := prog_10_method_10_code
def yX8_coast : MethodName := ⟨RX8, "coast", "()I"⟩
abbrev cX8_lacks : ByteArray := prog_10_method_11_code
def yX8_lacks : MethodName := ⟨RX8, "lacks", "()Z"⟩
abbrev cX8_isRiver : ByteArray := prog_10_method_12_code
def yX8_isRiver : MethodName := ⟨RX8, "isRiver", "(I)Z"⟩
abbrev cX8_pushes : ByteArray := prog_10_method_13_code
def yX8_pushes : MethodName := ⟨RX8, "pushes", "(II)Z"⟩
abbrev cX8_goBehind : ByteArray := prog_10_method_14_code
def yX8_goBehind : MethodName := ⟨RX8, "goBehind", "(I)V"⟩
abbrev cX8_goesBy : ByteArray := prog_10_method_15_code
def yX8_goesBy : MethodName := ⟨RX8, "goesBy", "()V"⟩
abbrev cX8_standing : ByteArray := prog_10_method_16_code
def yX8_standing : MethodName := ⟨RX8, "standing", "()I"⟩
abbrev cX8_layAside : ByteArray := prog_10_method_17_code
def yX8_layAside : MethodName := ⟨RX8, "layAside", "()V"⟩
abbrev cX8_layBack : ByteArray := prog_10_method_18_code
def yX8_layBack : MethodName := ⟨RX8, "layBack", "()V"⟩
abbrev cX8_waitsOf : ByteArray := prog_10_method_19_code
def yX8_waitsOf : MethodName := ⟨RX8, "waitsOf", "(I)I"⟩
abbrev cX8_placeOf : ByteArray := prog_10_method_20_code
def yX8_placeOf : MethodName := ⟨RX8, "placeOf", "(I)I"⟩
abbrev cX8_tell : ByteArray := prog_10_method_21_code
def yX8_tell : MethodName := ⟨RX8, "tell", "(II)I"⟩
abbrev cX8_river : ByteArray := prog_10_method_22_code
def yX8_river : MethodName := ⟨RX8, "river", "(II)I"⟩
abbrev cX8_as : ByteArray := prog_10_method_23_code
def yX8_as : MethodName := ⟨RX8, "as", "(II)I"⟩
abbrev cX8_row : ByteArray := prog_10_method_24_code
def yX8_row : MethodName := ⟨RX8, "row", "(I)I"⟩
abbrev cX8_hour : ByteArray := prog_10_method_25_code
def yX8_hour : MethodName := ⟨RX8, "hour", "()I"⟩
abbrev cX8_rains : ByteArray := prog_10_method_26_code
def yX8_rains : MethodName := ⟨RX8, "rains", "(II)I"⟩
abbrev cX8_rain : ByteArray := prog_10_method_27_code
def yX8_rain : MethodName := ⟨RX8, "rain", "(II)I"⟩
abbrev cX8_drought : ByteArray := prog_10_method_28_code
def yX8_drought : MethodName := ⟨RX8, "drought", "(I)I"⟩
abbrev cX8_wideOf : ByteArray := prog_10_method_29_code
def yX8_wideOf : MethodName := ⟨RX8, "wideOf", "(II)I"⟩
abbrev cX8_wide : ByteArray := prog_10_method_30_code
def yX8_wide : MethodName := ⟨RX8, "wide", "(II)I"⟩
abbrev cX8_layStands : ByteArray := prog_10_method_31_code
def yX8_layStands : MethodName := ⟨RX8, "layStands", "(I)Z"⟩
abbrev cX8_layBest : ByteArray := prog_10_method_32_code
def yX8_layBest : MethodName := ⟨RX8, "layBest", "()I"⟩
abbrev cX8_best : ByteArray := prog_10_method_33_code
def yX8_best : MethodName := ⟨RX8, "best", "(I)I"⟩
abbrev cX8_see : ByteArray := prog_10_method_34_code
def yX8_see : MethodName := ⟨RX8, "see", "(IIZ)I"⟩
abbrev cX8_forget : ByteArray := prog_10_method_35_code
def yX8_forget : MethodName := ⟨RX8, "forget", "()I"⟩
abbrev cX8_layThen : ByteArray := prog_10_method_36_code
def yX8_layThen : MethodName := ⟨RX8, "layThen", "(II)V"⟩
abbrev cX8_muchOf : ByteArray := prog_10_method_37_code
def yX8_muchOf : MethodName := ⟨RX8, "muchOf", "(I)I"⟩
abbrev cX8_lookOf : ByteArray := prog_10_method_38_code
def yX8_lookOf : MethodName := ⟨RX8, "lookOf", "(I)I"⟩
abbrev cX8_draw : ByteArray := prog_10_method_39_code
def yX8_draw : MethodName := ⟨RX8, "draw", "(I)I"⟩
abbrev cX8_seasons : ByteArray := prog_10_method_40_code
def yX8_seasons : MethodName := ⟨RX8, "seasons", "(III)I"⟩
abbrev cX8_image : ByteArray := prog_10_method_41_code
def yX8_image : MethodName := ⟨RX8, "image", "()I"⟩
abbrev cX8_restore : ByteArray := prog_10_method_42_code
def yX8_restore : MethodName := ⟨RX8, "restore", "()I"⟩
abbrev cX8_takenAll : ByteArray := prog_10_method_43_code
def yX8_takenAll : MethodName := ⟨RX8, "takenAll", "()I"⟩
abbrev cX8_countOf : ByteArray := prog_10_method_44_code
def yX8_countOf : MethodName := ⟨RX8, "countOf", "(I)I"⟩
abbrev cX8_count : ByteArray := prog_10_method_45_code
def yX8_count : MethodName := ⟨RX8, "count", "(I)I"⟩
abbrev cX8_say : ByteArray := prog_10_method_46_code
def yX8_say : MethodName := ⟨RX8, "say", "(J)V"⟩
abbrev cX8_digest : ByteArray := prog_10_method_47_code
def yX8_digest : MethodName := ⟨RX8, "digest", "()J"⟩
def RJx145de : String := "java/io/Serializable"
def TJx145de : u_T := fun k => match k with
  | _ => ("", "", "", false)
def tyJx145de : Nat → FieldType := fun k => match k with
  | _ => .int
abbrev wsJx145de0 : List Cond := u_ws RJx145de TJx145de 0
theorem nmJx145de : ∀ a, a < 0 → ∀ b, b < 0 → a ≠ b → (TJx145de a).2.1 ≠ (TJx145de b).2.1 := by decide +kernel
theorem tyJx145de_ok : ∀ k, k < 0 → parseFieldDescriptor (TJx145de k).2.2.1 = some (tyJx145de k) := by decide +kernel
def RJx9f9b0 : String := "java/lang/CharSequence"
def TJx9f9b0 : u_T := fun k => match k with
  | _ => ("", "", "", false)
def tyJx9f9b0 : Nat → FieldType := fun k => match k with
  | _ => .int
abbrev wsJx9f9b00 : List Cond := u_ws RJx9f9b0 TJx9f9b0 0
theorem nmJx9f9b0 : ∀ a, a < 0 → ∀ b, b < 0 → a ≠ b → (TJx9f9b0 a).2.1 ≠ (TJx9f9b0 b).2.1 := by decide +kernel
theorem tyJx9f9b0_ok : ∀ k, k < 0 → parseFieldDescriptor (TJx9f9b0 k).2.2.1 = some (tyJx9f9b0 k) := by decide +kernel
def RJ11 : String := "java/lang/Character"
def TJ11 : u_T := fun k => match k with
  | _ => ("", "", "", false)
def tyJ11 : Nat → FieldType := fun k => match k with
  | _ => .int
abbrev wsJ110 : List Cond := u_ws RJ11 TJ11 0
theorem nmJ11 : ∀ a, a < 0 → ∀ b, b < 0 → a ≠ b → (TJ11 a).2.1 ≠ (TJ11 b).2.1 := by decide +kernel
theorem tyJ11_ok : ∀ k, k < 0 → parseFieldDescriptor (TJ11 k).2.2.1 = some (tyJ11 k) := by decide +kernel
abbrev cJ11_isValidCodePoint_9a6ad : ByteArray := prog_11_method_11_code
def yJ11_isValidCodePoint_9a6ad : MethodName := ⟨RJ11, "isValidCodePoint", "(I)Z"⟩
abbrev cJ11_highSurrogate_5068e : ByteArray := prog_11_method_28_code
def yJ11_highSurrogate_5068e : MethodName := ⟨RJ11, "highSurrogate", "(I)C"⟩
abbrev cJ11_lowSurrogate_5068e : ByteArray := prog_11_method_29_code
def yJ11_lowSurrogate_5068e : MethodName := ⟨RJ11, "lowSurrogate", "(I)C"⟩
def RJxb160c : String := "java/lang/Comparable"
def TJxb160c : u_T := fun k => match k with
  | _ => ("", "", "", false)
def tyJxb160c : Nat → FieldType := fun k => match k with
  | _ => .int
abbrev wsJxb160c0 : List Cond := u_ws RJxb160c TJxb160c 0
theorem nmJxb160c : ∀ a, a < 0 → ∀ b, b < 0 → a ≠ b → (TJxb160c a).2.1 ≠ (TJxb160c b).2.1 := by decide +kernel
theorem tyJxb160c_ok : ∀ k, k < 0 → parseFieldDescriptor (TJxb160c k).2.2.1 = some (tyJxb160c k) := by decide +kernel
def RJ9 : String := "java/lang/Math"
def TJ9 : u_T := fun k => match k with
  | _ => ("", "", "", false)
def tyJ9 : Nat → FieldType := fun k => match k with
  | _ => .int
abbrev wsJ90 : List Cond := u_ws RJ9 TJ9 0
theorem nmJ9 : ∀ a, a < 0 → ∀ b, b < 0 → a ≠ b → (TJ9 a).2.1 ≠ (TJ9 b).2.1 := by decide +kernel
theorem tyJ9_ok : ∀ k, k < 0 → parseFieldDescriptor (TJ9 k).2.2.1 = some (tyJ9 k) := by decide +kernel
abbrev cJ9_max_7cf53 : ByteArray := prog_12_method_65_code
def yJ9_max_7cf53 : MethodName := ⟨RJ9, "max", "(II)I"⟩
abbrev cJ9_min_7cf53 : ByteArray := prog_12_method_69_code
def yJ9_min_7cf53 : MethodName := ⟨RJ9, "min", "(II)I"⟩
def RJ0 : String := "java/lang/String"
def TJ0 : u_T := fun k => match k with
  | _ => ("", "", "", false)
def tyJ0 : Nat → FieldType := fun k => match k with
  | _ => .int
abbrev wsJ00 : List Cond := u_ws RJ0 TJ0 0
theorem nmJ0 : ∀ a, a < 0 → ∀ b, b < 0 → a ≠ b → (TJ0 a).2.1 ≠ (TJ0 b).2.1 := by decide +kernel
theorem tyJ0_ok : ∀ k, k < 0 → parseFieldDescriptor (TJ0 k).2.2.1 = some (tyJ0 k) := by decide +kernel
abbrev cJ0_length_8abf5 : ByteArray := prog_13_method_54_code
def yJ0_length_8abf5 : MethodName := ⟨RJ0, "length", "()I"⟩
abbrev cJ0_indexOf_0f7a4 : ByteArray := prog_13_method_79_code
def yJ0_indexOf_0f7a4 : MethodName := ⟨RJ0, "indexOf", "(I)I"⟩
abbrev cJ0_indexOf_7cf53 : ByteArray := prog_13_method_80_code
def yJ0_indexOf_7cf53 : MethodName := ⟨RJ0, "indexOf", "(II)I"⟩
abbrev cJ0_coder_7d493 : ByteArray := prog_13_method_152_code
def yJ0_coder_7d493 : MethodName := ⟨RJ0, "coder", "()B"⟩
abbrev cJ0_isLatin1_aae02 : ByteArray := prog_13_method_154_code
def yJ0_isLatin1_aae02 : MethodName := ⟨RJ0, "isLatin1", "()Z"⟩
abbrev cJ0_checkBoundsBeginEnd_23922 : ByteArray := prog_13_method_158_code
def yJ0_checkBoundsBeginEnd_23922 : MethodName := ⟨RJ0, "checkBoundsBeginEnd", "(III)V"⟩
def RJ1 : String := "java/lang/StringLatin1"
def TJ1 : u_T := fun k => match k with
  | _ => ("", "", "", false)
def tyJ1 : Nat → FieldType := fun k => match k with
  | _ => .int
abbrev wsJ10 : List Cond := u_ws RJ1 TJ1 0
theorem nmJ1 : ∀ a, a < 0 → ∀ b, b < 0 → a ≠ b → (TJ1 a).2.1 ≠ (TJ1 b).2.1 := by decide +kernel
theorem tyJ1_ok : ∀ k, k < 0 → parseFieldDescriptor (TJ1 k).2.2.1 = some (tyJ1 k) := by decide +kernel
abbrev cJ1_canEncode_9a6ad : ByteArray := prog_14_method_4_code
def yJ1_canEncode_9a6ad : MethodName := ⟨RJ1, "canEncode", "(I)Z"⟩
abbrev cJ1_indexOf_4cfef : ByteArray := prog_14_method_22_code
def yJ1_indexOf_4cfef : MethodName := ⟨RJ1, "indexOf", "([BIII)I"⟩
abbrev cJ1_indexOfChar_4cfef : ByteArray := prog_14_method_23_code
def yJ1_indexOfChar_4cfef : MethodName := ⟨RJ1, "indexOfChar", "([BIII)I"⟩
def RJ2 : String := "java/lang/StringUTF16"
def TJ2 : u_T := fun k => match k with
  | _ => ("", "", "", false)
def tyJ2 : Nat → FieldType := fun k => match k with
  | _ => .int
abbrev wsJ20 : List Cond := u_ws RJ2 TJ2 0
theorem nmJ2 : ∀ a, a < 0 → ∀ b, b < 0 → a ≠ b → (TJ2 a).2.1 ≠ (TJ2 b).2.1 := by decide +kernel
theorem tyJ2_ok : ∀ k, k < 0 → parseFieldDescriptor (TJ2 k).2.2.1 = some (tyJ2 k) := by decide +kernel
abbrev cJ2_getChar_3b067 : ByteArray := prog_15_method_5_code
def yJ2_getChar_3b067 : MethodName := ⟨RJ2, "getChar", "([BI)C"⟩
abbrev cJ2_length_9d52b : ByteArray := prog_15_method_6_code
def yJ2_length_9d52b : MethodName := ⟨RJ2, "length", "([B)I"⟩
abbrev cJ2_indexOf_4cfef : ByteArray := prog_15_method_40_code
def yJ2_indexOf_4cfef : MethodName := ⟨RJ2, "indexOf", "([BIII)I"⟩
abbrev cJ2_indexOfChar_4cfef : ByteArray := prog_15_method_47_code
def yJ2_indexOfChar_4cfef : MethodName := ⟨RJ2, "indexOfChar", "([BIII)I"⟩
abbrev cJ2_indexOfCharUnsafe_4cfef : ByteArray := prog_15_method_48_code
def yJ2_indexOfCharUnsafe_4cfef : MethodName := ⟨RJ2, "indexOfCharUnsafe", "([BIII)I"⟩
abbrev cJ2_indexOfSupplementary_4cfef : ByteArray := prog_15_method_49_code
def yJ2_indexOfSupplementary_4cfef : MethodName := ⟨RJ2, "indexOfSupplementary", "([BIII)I"⟩
abbrev cJ2_checkBoundsBeginEnd_d044e : ByteArray := prog_15_method_93_code
def yJ2_checkBoundsBeginEnd_d044e : MethodName := ⟨RJ2, "checkBoundsBeginEnd", "(II[B)V"⟩
def RJ10 : String := "java/lang/System"
def TJ10 : u_T := fun k => match k with
  | _ => ("", "", "", false)
def tyJ10 : Nat → FieldType := fun k => match k with
  | _ => .int
abbrev wsJ100 : List Cond := u_ws RJ10 TJ10 0
theorem nmJ10 : ∀ a, a < 0 → ∀ b, b < 0 → a ≠ b → (TJ10 a).2.1 ≠ (TJ10 b).2.1 := by decide +kernel
theorem tyJ10_ok : ∀ k, k < 0 → parseFieldDescriptor (TJ10 k).2.2.1 = some (tyJ10 k) := by decide +kernel
def RJxfd54e : String := "java/lang/constant/Constable"
def TJxfd54e : u_T := fun k => match k with
  | _ => ("", "", "", false)
def tyJxfd54e : Nat → FieldType := fun k => match k with
  | _ => .int
abbrev wsJxfd54e0 : List Cond := u_ws RJxfd54e TJxfd54e 0
theorem nmJxfd54e : ∀ a, a < 0 → ∀ b, b < 0 → a ≠ b → (TJxfd54e a).2.1 ≠ (TJxfd54e b).2.1 := by decide +kernel
theorem tyJxfd54e_ok : ∀ k, k < 0 → parseFieldDescriptor (TJxfd54e k).2.2.1 = some (tyJxfd54e k) := by decide +kernel
def RJx3cf43 : String := "java/lang/constant/ConstantDesc"
def TJx3cf43 : u_T := fun k => match k with
  | _ => ("", "", "", false)
def tyJx3cf43 : Nat → FieldType := fun k => match k with
  | _ => .int
abbrev wsJx3cf430 : List Cond := u_ws RJx3cf43 TJx3cf43 0
theorem nmJx3cf43 : ∀ a, a < 0 → ∀ b, b < 0 → a ≠ b → (TJx3cf43 a).2.1 ≠ (TJx3cf43 b).2.1 := by decide +kernel
theorem tyJx3cf43_ok : ∀ k, k < 0 → parseFieldDescriptor (TJx3cf43 k).2.2.1 = some (tyJx3cf43 k) := by decide +kernel
def RJ7 : String := "java/util/Arrays"
def TJ7 : u_T := fun k => match k with
  | _ => ("", "", "", false)
def tyJ7 : Nat → FieldType := fun k => match k with
  | _ => .int
abbrev wsJ70 : List Cond := u_ws RJ7 TJ7 0
theorem nmJ7 : ∀ a, a < 0 → ∀ b, b < 0 → a ≠ b → (TJ7 a).2.1 ≠ (TJ7 b).2.1 := by decide +kernel
theorem tyJ7_ok : ∀ k, k < 0 → parseFieldDescriptor (TJ7 k).2.2.1 = some (tyJ7 k) := by decide +kernel
abbrev cJ7_fill_53178 : ByteArray := prog_17_method_103_code
def yJ7_fill_53178 : MethodName := ⟨RJ7, "fill", "([II)V"⟩
def RJ3 : String := "jdk/internal/util/Preconditions"
def TJ3 : u_T := fun k => match k with
  | _ => ("", "", "", false)
def tyJ3 : Nat → FieldType := fun k => match k with
  | _ => .int
abbrev wsJ30 : List Cond := u_ws RJ3 TJ3 0
theorem nmJ3 : ∀ a, a < 0 → ∀ b, b < 0 → a ≠ b → (TJ3 a).2.1 ≠ (TJ3 b).2.1 := by decide +kernel
theorem tyJ3_ok : ∀ k, k < 0 → parseFieldDescriptor (TJ3 k).2.2.1 = some (tyJ3 k) := by decide +kernel
abbrev cJ3_checkFromToIndex_8c36e : ByteArray := prog_18_method_12_code
def yJ3_checkFromToIndex_8c36e : MethodName := ⟨RJ3, "checkFromToIndex", "(IIILjava/util/function/BiFunction;)I"⟩
def RL : String := "RiversQueueLaw"
abbrev cL_law : ByteArray := code
def yL_law : MethodName := ⟨RL, "law", "([I)Z"⟩
def wsL_law_r1 : List Cond := [Cond.classLink RL 7 RX7, Cond.instantiable RX7 11, Cond.initialized RX7, Cond.classLink RL 10 RX8, Cond.instantiable RX8 34, Cond.initialized RX8, Cond.methodLink RL 9 yX7_init, Cond.instanceMethod yX7_init, Cond.code yX7_init cX7_init 1 none, Cond.methodLink RX7 1 objectInit, Cond.instanceMethod objectInit, Cond.code objectInit ⟨#[0xb1]⟩ 1 none, Cond.classLink RX7 7 RX4, Cond.instantiable RX4 2, Cond.initialized RX4, Cond.fieldLink RX7 10 "RiversQueue" "page" "LRiversQueue$Page;", Cond.classLink RX7 16 RX1, Cond.instantiable RX1 4, Cond.initialized RX1, Cond.fieldLink RX7 19 "RiversQueue" "coast" "LRiversQueue$Coast;", Cond.classLink RX7 23 RX5, Cond.instantiable RX5 6, Cond.initialized RX5, Cond.fieldLink RX7 28 "RiversQueue" "now" "LRiversQueue$Shore;"]
def wsL_law_r2 : List Cond := [Cond.classLink RX7 32 RX6, Cond.instantiable RX6 4, Cond.initialized RX6, Cond.fieldLink RX7 35 "RiversQueue" "seen" "LRiversQueue$Sightings;", Cond.fieldLink RX7 39 "RiversQueue" "keptShore" "LRiversQueue$Shore;", Cond.fieldLink RX7 42 "RiversQueue" "keptSeen" "LRiversQueue$Sightings;", Cond.classLink RX7 45 RX3, Cond.instantiable RX3 7, Cond.initialized RX3, Cond.fieldLink RX7 50 "RiversQueue" "forecast" "LRiversQueue$Forecast;", Cond.classLink RX7 54 RX0, Cond.instantiable RX0 6, Cond.initialized RX0, Cond.fieldLink RX7 59 "RiversQueue" "bestOrder" "LRiversQueue$BestOrder;", Cond.instanceMethod yX4_init, Cond.code yX4_init cX4_init 1 none, Cond.methodLink RX4 3 objectInit, Cond.arrayClass .int, Cond.fieldLink RX4 9 "RiversQueue$Page" "letters" "[I", Cond.instanceMethod yX1_init, Cond.code yX1_init cX1_init 1 none, Cond.methodLink RX1 3 objectInit, Cond.fieldLink RX1 9 "RiversQueue$Coast" "kinds" "[I", Cond.fieldLink RX1 15 "RiversQueue$Coast" "flows" "[I"]
def wsL_law_r3 : List Cond := [Cond.methodLink RX7 25 yX5_init, Cond.instanceMethod yX5_init, Cond.code yX5_init cX5_init 2 none, Cond.methodLink RX5 3 objectInit, Cond.fieldLink RX5 9 "RiversQueue$Shore" "water" "[I", Cond.fieldLink RX5 15 "RiversQueue$Shore" "took" "[I", Cond.fieldLink RX5 18 "RiversQueue$Shore" "row" "[I", Cond.fieldLink RX5 21 "RiversQueue$Shore" "takenOf" "I", Cond.fieldLink RX5 25 "RiversQueue$Shore" "coast" "LRiversQueue$Coast;", Cond.instanceMethod yX6_init, Cond.code yX6_init cX6_init 1 none, Cond.methodLink RX6 3 objectInit, Cond.fieldLink RX6 9 "RiversQueue$Sightings" "hours" "[I", Cond.fieldLink RX6 15 "RiversQueue$Sightings" "rivers" "[I", Cond.arrayClass .boolean, Cond.fieldLink RX6 18 "RiversQueue$Sightings" "taken" "[Z", Cond.methodLink RX7 47 yX3_init, Cond.instanceMethod yX3_init, Cond.code yX3_init cX3_init 4 none, Cond.methodLink RX3 3 objectInit, Cond.classLink RX3 9 RX2, Cond.instantiable RX2 1, Cond.initialized RX2, Cond.fieldLink RX3 12 "RiversQueue$Forecast" "draws" "LRiversQueue$Draws;"]
def wsL_law_r4 : List Cond := [Cond.fieldLink RX3 18 "RiversQueue$Forecast" "takenOf" "[I", Cond.fieldLink RX3 22 "RiversQueue$Forecast" "takes" "[I", Cond.fieldLink RX3 25 "RiversQueue$Forecast" "coast" "LRiversQueue$Coast;", Cond.fieldLink RX3 29 "RiversQueue$Forecast" "now" "LRiversQueue$Shore;", Cond.fieldLink RX3 33 "RiversQueue$Forecast" "seen" "LRiversQueue$Sightings;", Cond.classLink RX3 37 RX5, Cond.fieldLink RX3 42 "RiversQueue$Forecast" "trial" "LRiversQueue$Shore;", Cond.instanceMethod yX2_init, Cond.code yX2_init cX2_init 1 none, Cond.methodLink RX2 1 objectInit, Cond.methodLink RX3 39 yX5_init, Cond.methodLink RX7 56 yX0_init, Cond.instanceMethod yX0_init, Cond.code yX0_init cX0_init 3 none, Cond.methodLink RX0 3 objectInit, Cond.fieldLink RX0 9 "RiversQueue$BestOrder" "order" "[I", Cond.fieldLink RX0 15 "RiversQueue$BestOrder" "found" "[I", Cond.fieldLink RX0 18 "RiversQueue$BestOrder" "coast" "LRiversQueue$Coast;", Cond.fieldLink RX0 22 "RiversQueue$BestOrder" "now" "LRiversQueue$Shore;", Cond.classLink RX0 26 RX5, Cond.fieldLink RX0 31 "RiversQueue$BestOrder" "trial" "LRiversQueue$Shore;", Cond.methodLink RX0 28 yX5_init, Cond.methodLink RL 12 yX8_init, Cond.instanceMethod yX8_init]
def wsL_law_r5 : List Cond := [Cond.code yX8_init cX8_init 1 none, Cond.methodLink RX8 1 objectInit, Cond.fieldLink RX8 7 "RiversQueueModel" "page" "[I", Cond.fieldLink RX8 13 "RiversQueueModel" "read" "[I", Cond.fieldLink RX8 16 "RiversQueueModel" "kinds" "[I", Cond.fieldLink RX8 19 "RiversQueueModel" "flows" "[I", Cond.fieldLink RX8 22 "RiversQueueModel" "waters" "[I", Cond.fieldLink RX8 25 "RiversQueueModel" "stands" "[I", Cond.fieldLink RX8 28 "RiversQueueModel" "taken" "[I", Cond.fieldLink RX8 31 "RiversQueueModel" "savedWaters" "[I", Cond.fieldLink RX8 34 "RiversQueueModel" "savedStands" "[I", Cond.fieldLink RX8 37 "RiversQueueModel" "bestStands" "[I", Cond.fieldLink RX8 40 "RiversQueueModel" "sights" "[I", Cond.fieldLink RX8 43 "RiversQueueModel" "tookThen" "[I", Cond.fieldLink RX8 46 "RiversQueueModel" "yes" "[I", Cond.fieldLink RX8 49 "RiversQueueModel" "keptWaters" "[I", Cond.fieldLink RX8 52 "RiversQueueModel" "keptStands" "[I", Cond.fieldLink RX8 55 "RiversQueueModel" "keptTaken" "[I", Cond.fieldLink RX8 58 "RiversQueueModel" "keptSights" "[I", Cond.fieldLink RX8 61 "RiversQueueModel" "keptCoast" "I", Cond.methodLink RL 13 yX7_letter, Cond.instanceMethod yX7_letter, Cond.selects RX7 yX7_letter yX7_letter, Cond.code yX7_letter cX7_letter 2 (some .int)]
def wsL_law_r6 : List Cond := [Cond.methodLink RX7 63 yX7_within, Cond.static yX7_within, Cond.code yX7_within cX7_within 3 (some .boolean), Cond.methodLink RX7 67 yX4_isFull, Cond.instanceMethod yX4_isFull, Cond.selects RX4 yX4_isFull yX4_isFull, Cond.code yX4_isFull cX4_isFull 1 (some .boolean), Cond.fieldLink RX4 15 "RiversQueue$Page" "size" "I", Cond.methodLink RX7 71 yX4_write, Cond.instanceMethod yX4_write, Cond.selects RX4 yX4_write yX4_write, Cond.code yX4_write cX4_write 2 (some .int), Cond.methodLink RX4 19 yX4_isFull, Cond.methodLink RL 17 yX8_letter, Cond.instanceMethod yX8_letter, Cond.selects RX8 yX8_letter yX8_letter, Cond.code yX8_letter cX8_letter 2 (some .int), Cond.constantLong RX8 65 (126), Cond.fieldLink RX8 71 "RiversQueueModel" "pageMany" "I", Cond.methodLink RX8 67 yX8_in, Cond.static yX8_in, Cond.code yX8_in cX8_in 6 (some .boolean), Cond.methodLink RL 18 yX7_blank, Cond.instanceMethod yX7_blank]
def wsL_law_r7 : List Cond := [Cond.selects RX7 yX7_blank yX7_blank, Cond.code yX7_blank cX7_blank 1 (some .int), Cond.methodLink RX7 75 yX4_clear, Cond.instanceMethod yX4_clear, Cond.selects RX4 yX4_clear yX4_clear, Cond.code yX4_clear cX4_clear 2 (some .int), Cond.methodLink RL 22 yX8_blank, Cond.instanceMethod yX8_blank, Cond.selects RX8 yX8_blank yX8_blank, Cond.code yX8_blank cX8_blank 2 (some .int), Cond.methodLink RL 23 yX7_fault, Cond.instanceMethod yX7_fault, Cond.selects RX7 yX7_fault yX7_fault, Cond.code yX7_fault cX7_fault 1 (some .int), Cond.methodLink RX7 79 yX4_firstFault, Cond.instanceMethod yX4_firstFault, Cond.selects RX4 yX4_firstFault yX4_firstFault, Cond.code yX4_firstFault cX4_firstFault 2 (some .int), Cond.methodLink RX4 23 yX4_fits, Cond.instanceMethod yX4_fits, Cond.selects RX4 yX4_fits yX4_fits, Cond.code yX4_fits cX4_fits 4 (some .boolean), Cond.methodLink RX4 36 yX4_codeAt, Cond.instanceMethod yX4_codeAt]
def wsL_law_r8 : List Cond := [Cond.selects RX4 yX4_codeAt yX4_codeAt, Cond.code yX4_codeAt cX4_codeAt 2 (some .int), Cond.methodLink RX4 31 yX4_standsBehindEnd, Cond.instanceMethod yX4_standsBehindEnd, Cond.selects RX4 yX4_standsBehindEnd yX4_standsBehindEnd, Cond.code yX4_standsBehindEnd cX4_standsBehindEnd 2 (some .boolean), Cond.methodLink RX4 40 yJ0_indexOf_0f7a4, Cond.instanceMethod yJ0_indexOf_0f7a4, Cond.selects RJ0 yJ0_indexOf_0f7a4 yJ0_indexOf_0f7a4, Cond.initialized RJ0, Cond.code yJ0_indexOf_0f7a4 cJ0_indexOf_0f7a4 2 (some .int), Cond.methodLink RJ0 633 yJ0_indexOf_7cf53, Cond.instanceMethod yJ0_indexOf_7cf53, Cond.selects RJ0 yJ0_indexOf_7cf53 yJ0_indexOf_7cf53, Cond.code yJ0_indexOf_7cf53 cJ0_indexOf_7cf53 3 (some .int), Cond.fieldLink RJ0 9 "java/lang/String" "value" "[B", Cond.methodLink RJ0 492 yJ0_isLatin1_aae02, Cond.instanceMethod yJ0_isLatin1_aae02, Cond.selects RJ0 yJ0_isLatin1_aae02 yJ0_isLatin1_aae02, Cond.code yJ0_isLatin1_aae02 cJ0_isLatin1_aae02 1 (some .boolean), Cond.fieldLink RJ0 38 "java/lang/String" "COMPACT_STRINGS" "Z", Cond.fieldLink RJ0 15 "java/lang/String" "coder" "B", Cond.methodLink RJ0 505 yJ0_length_8abf5, Cond.instanceMethod yJ0_length_8abf5]
def wsL_law_r9 : List Cond := [Cond.selects RJ0 yJ0_length_8abf5 yJ0_length_8abf5, Cond.code yJ0_length_8abf5 cJ0_length_8abf5 1 (some .int), Cond.methodLink RJ0 335 yJ0_coder_7d493, Cond.instanceMethod yJ0_coder_7d493, Cond.selects RJ0 yJ0_coder_7d493 yJ0_coder_7d493, Cond.code yJ0_coder_7d493 cJ0_coder_7d493 1 (some .byte), Cond.methodLink RJ0 637 yJ1_indexOf_4cfef, Cond.static yJ1_indexOf_4cfef, Cond.initialized RJ1, Cond.code yJ1_indexOf_4cfef cJ1_indexOf_4cfef 4 (some .int), Cond.methodLink RJ1 92 Lib.Math.max.name, Cond.static Lib.Math.max.name, Cond.initialized "java/lang/Math", Cond.code Lib.Math.max.name Lib.Math.max.code 2 (some .int), Cond.methodLink RJ1 38 Lib.Math.min.name, Cond.static Lib.Math.min.name, Cond.code Lib.Math.min.name Lib.Math.min.code 2 (some .int), Cond.methodLink RJ1 88 yJ1_canEncode_9a6ad, Cond.static yJ1_canEncode_9a6ad, Cond.code yJ1_canEncode_9a6ad cJ1_canEncode_9a6ad 1 (some .boolean), Cond.methodLink RJ1 95 yJ1_indexOfChar_4cfef, Cond.static yJ1_indexOfChar_4cfef, Cond.code yJ1_indexOfChar_4cfef cJ1_indexOfChar_4cfef 6 (some .int), Cond.methodLink RJ0 640 yJ2_indexOf_4cfef]
def wsL_law_r10 : List Cond := [Cond.static yJ2_indexOf_4cfef, Cond.initialized RJ2, Cond.code yJ2_indexOf_4cfef cJ2_indexOf_4cfef 4 (some .int), Cond.methodLink RJ2 224 Lib.Math.max.name, Cond.methodLink RJ2 183 Lib.Math.min.name, Cond.constant RJ2 227 (65536), Cond.methodLink RJ2 228 yJ2_indexOfChar_4cfef, Cond.static yJ2_indexOfChar_4cfef, Cond.code yJ2_indexOfChar_4cfef cJ2_indexOfChar_4cfef 4 (some .int), Cond.methodLink RJ2 96 yJ2_checkBoundsBeginEnd_d044e, Cond.static yJ2_checkBoundsBeginEnd_d044e, Cond.code yJ2_checkBoundsBeginEnd_d044e cJ2_checkBoundsBeginEnd_d044e 3 none, Cond.methodLink RJ2 48 yJ2_length_9d52b, Cond.static yJ2_length_9d52b, Cond.code yJ2_length_9d52b cJ2_length_9d52b 1 (some .int), Cond.methodLink RJ2 241 yJ0_checkBoundsBeginEnd_23922, Cond.static yJ0_checkBoundsBeginEnd_23922, Cond.code yJ0_checkBoundsBeginEnd_23922 cJ0_checkBoundsBeginEnd_23922 3 none, Cond.fieldLink RJ0 1053 "jdk/internal/util/Preconditions" "SIOOBE_FORMATTER" "Ljava/util/function/BiFunction;", Cond.methodLink RJ0 1062 yJ3_checkFromToIndex_8c36e, Cond.static yJ3_checkFromToIndex_8c36e, Cond.initialized RJ3, Cond.code yJ3_checkFromToIndex_8c36e cJ3_checkFromToIndex_8c36e 4 (some .int), Cond.methodLink RJ2 244 yJ2_indexOfCharUnsafe_4cfef]
def wsL_law_r11 : List Cond := [Cond.static yJ2_indexOfCharUnsafe_4cfef, Cond.code yJ2_indexOfCharUnsafe_4cfef cJ2_indexOfCharUnsafe_4cfef 5 (some .int), Cond.methodLink RJ2 71 yJ2_getChar_3b067, Cond.static yJ2_getChar_3b067, Cond.code yJ2_getChar_3b067 cJ2_getChar_3b067 2 (some .char), Cond.fieldLink RJ2 44 "java/lang/StringUTF16" "$assertionsDisabled" "Z", Cond.fieldLink RJ2 59 "java/lang/StringUTF16" "HI_BYTE_SHIFT" "I", Cond.fieldLink RJ2 63 "java/lang/StringUTF16" "LO_BYTE_SHIFT" "I", Cond.methodLink RJ2 232 yJ2_indexOfSupplementary_4cfef, Cond.static yJ2_indexOfSupplementary_4cfef, Cond.code yJ2_indexOfSupplementary_4cfef cJ2_indexOfSupplementary_4cfef 7 (some .int), Cond.methodLink RJ2 164 yJ11_isValidCodePoint_9a6ad, Cond.static yJ11_isValidCodePoint_9a6ad, Cond.initialized RJ11, Cond.code yJ11_isValidCodePoint_9a6ad cJ11_isValidCodePoint_9a6ad 2 (some .boolean), Cond.methodLink RJ2 157 yJ11_highSurrogate_5068e, Cond.static yJ11_highSurrogate_5068e, Cond.code yJ11_highSurrogate_5068e cJ11_highSurrogate_5068e 1 (some .char), Cond.constant RJ11 110 (55232), Cond.methodLink RJ2 161 yJ11_lowSurrogate_5068e, Cond.static yJ11_lowSurrogate_5068e, Cond.code yJ11_lowSurrogate_5068e cJ11_lowSurrogate_5068e 1 (some .char), Cond.constant RJ11 76 (56320), Cond.methodLink RX4 49 yX4_fitsBehindRiver]
def wsL_law_r12 : List Cond := [Cond.static yX4_fitsBehindRiver, Cond.code yX4_fitsBehindRiver cX4_fitsBehindRiver 2 (some .boolean), Cond.methodLink RL 26 yX8_fault, Cond.instanceMethod yX8_fault, Cond.selects RX8 yX8_fault yX8_fault, Cond.code yX8_fault cX8_fault 1 (some .int), Cond.methodLink RX8 95 yX8_faultOf, Cond.instanceMethod yX8_faultOf, Cond.selects RX8 yX8_faultOf yX8_faultOf, Cond.code yX8_faultOf cX8_faultOf 2 (some .int), Cond.fieldLink RX8 77 "RiversQueueModel" "readMany" "I", Cond.fieldLink RX8 74 "RiversQueueModel" "state" "I", Cond.methodLink RX8 91 yX8_go, Cond.instanceMethod yX8_go, Cond.selects RX8 yX8_go yX8_go, Cond.code yX8_go cX8_go 4 (some .boolean), Cond.constantLong RX8 84 (9), Cond.constantLong RX8 86 (5), Cond.fieldLink RX8 88 "RiversQueueModel" "readBar" "I", Cond.methodLink RX8 80 yX8_kindBy, Cond.static yX8_kindBy, Cond.code yX8_kindBy cX8_kindBy 1 (some .int), Cond.methodLink RL 27 yX7_coast, Cond.instanceMethod yX7_coast]
def wsL_law_r13 : List Cond := [Cond.selects RX7 yX7_coast yX7_coast, Cond.code yX7_coast cX7_coast 1 (some .int), Cond.fieldLink RX7 93 "RiversQueue" "imageKept" "Z", Cond.fieldLink RX7 97 "RiversQueue" "coastsRead" "I", Cond.methodLink RX7 82 yX4_holdsCoast, Cond.instanceMethod yX4_holdsCoast, Cond.selects RX4 yX4_holdsCoast yX4_holdsCoast, Cond.code yX4_holdsCoast cX4_holdsCoast 1 (some .boolean), Cond.methodLink RX4 27 yX4_firstFault, Cond.methodLink RX7 85 yX1_readFrom, Cond.instanceMethod yX1_readFrom, Cond.selects RX1 yX1_readFrom yX1_readFrom, Cond.code yX1_readFrom cX1_readFrom 3 none, Cond.methodLink RX1 24 Lib.Math.min.name, Cond.fieldLink RX1 30 "RiversQueue$Coast" "rivers" "I", Cond.fieldLink RX1 36 "RiversQueue$Coast" "bar" "I", Cond.methodLink RX1 18 yX4_rivers, Cond.instanceMethod yX4_rivers, Cond.selects RX4 yX4_rivers yX4_rivers, Cond.code yX4_rivers cX4_rivers 1 (some .int), Cond.methodLink RX1 33 yX4_lastDigit, Cond.instanceMethod yX4_lastDigit, Cond.selects RX4 yX4_lastDigit yX4_lastDigit, Cond.code yX4_lastDigit cX4_lastDigit 1 (some .int)]
def wsL_law_r14 : List Cond := [Cond.methodLink RX1 39 yX4_kindAt, Cond.instanceMethod yX4_kindAt, Cond.selects RX4 yX4_kindAt yX4_kindAt, Cond.code yX4_kindAt cX4_kindAt 2 (some .int), Cond.methodLink RX1 43 yX4_flowAt, Cond.instanceMethod yX4_flowAt, Cond.selects RX4 yX4_flowAt yX4_flowAt, Cond.code yX4_flowAt cX4_flowAt 2 (some .int), Cond.methodLink RX7 89 yX5_beginAs, Cond.instanceMethod yX5_beginAs, Cond.selects RX5 yX5_beginAs yX5_beginAs, Cond.code yX5_beginAs cX5_beginAs 3 none, Cond.fieldLink RX5 40 "RiversQueue$Shore" "hours" "I", Cond.methodLink RX5 34 yX4_waterAt, Cond.instanceMethod yX4_waterAt, Cond.selects RX4 yX4_waterAt yX4_waterAt, Cond.code yX4_waterAt cX4_waterAt 2 (some .int), Cond.methodLink RX7 92 yX6_clear, Cond.instanceMethod yX6_clear, Cond.selects RX6 yX6_clear yX6_clear, Cond.code yX6_clear cX6_clear 2 (some .int), Cond.fieldLink RX6 22 "RiversQueue$Sightings" "size" "I", Cond.methodLink RL 30 yX8_coast, Cond.instanceMethod yX8_coast]
def wsL_law_r15 : List Cond := [Cond.selects RX8 yX8_coast yX8_coast, Cond.code yX8_coast cX8_coast 2 (some .int), Cond.fieldLink RX8 99 "RiversQueueModel" "many" "I", Cond.fieldLink RX8 102 "RiversQueueModel" "bar" "I", Cond.fieldLink RX8 105 "RiversQueueModel" "hoursNow" "I", Cond.fieldLink RX8 108 "RiversQueueModel" "seenMany" "I", Cond.fieldLink RX8 111 "RiversQueueModel" "coastsRead" "I", Cond.methodLink RL 31 yX7_river, Cond.instanceMethod yX7_river, Cond.selects RX7 yX7_river yX7_river, Cond.code yX7_river cX7_river 3 (some .int), Cond.methodLink RX7 104 yX1_hasRiver, Cond.instanceMethod yX1_hasRiver, Cond.selects RX1 yX1_hasRiver yX1_hasRiver, Cond.code yX1_hasRiver cX1_hasRiver 2 (some .boolean), Cond.methodLink RX7 118 yX5_placeOf, Cond.instanceMethod yX5_placeOf, Cond.selects RX5 yX5_placeOf yX5_placeOf, Cond.code yX5_placeOf cX5_placeOf 3 (some .int), Cond.methodLink RX7 124 yX3_waitsOf, Cond.instanceMethod yX3_waitsOf, Cond.selects RX3 yX3_waitsOf yX3_waitsOf, Cond.code yX3_waitsOf cX3_waitsOf 3 (some .int), Cond.methodLink RX3 45 yX5_copyFrom]
def wsL_law_r16 : List Cond := [Cond.instanceMethod yX5_copyFrom, Cond.selects RX5 yX5_copyFrom yX5_copyFrom, Cond.code yX5_copyFrom cX5_copyFrom 2 none, Cond.methodLink RX5 43 arraycopyName, Cond.native arraycopyName, Cond.static arraycopyName, Cond.initialized "java/lang/System", Cond.methodLink RX3 49 yX5_passHour, Cond.instanceMethod yX5_passHour, Cond.selects RX5 yX5_passHour yX5_passHour, Cond.code yX5_passHour cX5_passHour 2 (some .int), Cond.methodLink RX5 56 yX5_addWater, Cond.instanceMethod yX5_addWater, Cond.selects RX5 yX5_addWater yX5_addWater, Cond.code yX5_addWater cX5_addWater 3 (some .int), Cond.methodLink RX5 67 Lib.Math.min.name, Cond.methodLink RX5 60 yX5_pushAll, Cond.instanceMethod yX5_pushAll, Cond.selects RX5 yX5_pushAll yX5_pushAll, Cond.code yX5_pushAll cX5_pushAll 4 none, Cond.methodLink RX5 79 yX5_pushes, Cond.instanceMethod yX5_pushes, Cond.selects RX5 yX5_pushes yX5_pushes, Cond.code yX5_pushes cX5_pushes 4 (some .boolean)]
def wsL_law_r17 : List Cond := [Cond.methodLink RX5 63 yX5_feedSea, Cond.instanceMethod yX5_feedSea, Cond.selects RX5 yX5_feedSea yX5_feedSea, Cond.code yX5_feedSea cX5_feedSea 3 (some .int), Cond.methodLink RX5 75 yX5_sendBehindAll, Cond.instanceMethod yX5_sendBehindAll, Cond.selects RX5 yX5_sendBehindAll yX5_sendBehindAll, Cond.code yX5_sendBehindAll cX5_sendBehindAll 5 none, Cond.methodLink RX5 89 yX1_hasRiver, Cond.methodLink RX7 127 yX3_possibleWaters, Cond.instanceMethod yX3_possibleWaters, Cond.selects RX3 yX3_possibleWaters yX3_possibleWaters, Cond.code yX3_possibleWaters cX3_possibleWaters 4 (some .int), Cond.methodLink RX3 59 yX3_isPossible, Cond.instanceMethod yX3_isPossible, Cond.selects RX3 yX3_isPossible yX3_isPossible, Cond.code yX3_isPossible cX3_isPossible 4 (some .boolean), Cond.methodLink RX3 100 yX6_agreeWith, Cond.instanceMethod yX6_agreeWith, Cond.selects RX6 yX6_agreeWith yX6_agreeWith, Cond.code yX6_agreeWith cX6_agreeWith 5 (some .boolean), Cond.methodLink RX7 130 yX3_hourToLook, Cond.instanceMethod yX3_hourToLook, Cond.selects RX3 yX3_hourToLook yX3_hourToLook]
def wsL_law_r18 : List Cond := [Cond.code yX3_hourToLook cX3_hourToLook 4 (some .int), Cond.methodLink RX3 63 yJ7_fill_53178, Cond.static yJ7_fill_53178, Cond.initialized RJ7, Cond.code yJ7_fill_53178 cJ7_fill_53178 4 none, Cond.methodLink RX3 69 yX3_addTakes, Cond.instanceMethod yX3_addTakes, Cond.selects RX3 yX3_addTakes yX3_addTakes, Cond.code yX3_addTakes cX3_addTakes 3 none, Cond.methodLink RX3 73 yX3_hourThatParts, Cond.instanceMethod yX3_hourThatParts, Cond.selects RX3 yX3_hourThatParts yX3_hourThatParts, Cond.code yX3_hourThatParts cX3_hourThatParts 6 (some .int), Cond.methodLink RX3 92 Lib.Math.max.name, Cond.methodLink RL 35 yX8_river, Cond.instanceMethod yX8_river, Cond.selects RX8 yX8_river yX8_river, Cond.code yX8_river cX8_river 3 (some .int), Cond.methodLink RX8 153 yX8_isRiver, Cond.instanceMethod yX8_isRiver, Cond.selects RX8 yX8_isRiver yX8_isRiver, Cond.code yX8_isRiver cX8_isRiver 2 (some .boolean), Cond.methodLink RX8 156 yX8_tell, Cond.instanceMethod yX8_tell]
def wsL_law_r19 : List Cond := [Cond.selects RX8 yX8_tell yX8_tell, Cond.code yX8_tell cX8_tell 3 (some .int), Cond.methodLink RX8 141 yX8_placeOf, Cond.instanceMethod yX8_placeOf, Cond.selects RX8 yX8_placeOf yX8_placeOf, Cond.code yX8_placeOf cX8_placeOf 4 (some .int), Cond.methodLink RX8 144 yX8_waitsOf, Cond.instanceMethod yX8_waitsOf, Cond.selects RX8 yX8_waitsOf yX8_waitsOf, Cond.code yX8_waitsOf cX8_waitsOf 4 (some .int), Cond.fieldLink RX8 121 "RiversQueueModel" "tookOf" "I", Cond.methodLink RX8 132 yX8_layAside, Cond.instanceMethod yX8_layAside, Cond.selects RX8 yX8_layAside yX8_layAside, Cond.code yX8_layAside cX8_layAside 1 none, Cond.methodLink RX8 128 yX8_copy, Cond.static yX8_copy, Cond.code yX8_copy cX8_copy 3 none, Cond.methodLink RX8 135 yX8_goesBy, Cond.instanceMethod yX8_goesBy, Cond.selects RX8 yX8_goesBy yX8_goesBy, Cond.code yX8_goesBy cX8_goesBy 4 none, Cond.fieldLink RX8 118 "RiversQueueModel" "tookMuch" "I", Cond.methodLink RX8 114 yX8_pushes]
def wsL_law_r20 : List Cond := [Cond.instanceMethod yX8_pushes, Cond.selects RX8 yX8_pushes yX8_pushes, Cond.code yX8_pushes cX8_pushes 6 (some .boolean), Cond.methodLink RX8 124 yX8_goBehind, Cond.instanceMethod yX8_goBehind, Cond.selects RX8 yX8_goBehind yX8_goBehind, Cond.code yX8_goBehind cX8_goBehind 4 none, Cond.methodLink RX8 138 yX8_layBack, Cond.instanceMethod yX8_layBack, Cond.selects RX8 yX8_layBack yX8_layBack, Cond.code yX8_layBack cX8_layBack 1 none, Cond.methodLink RX8 147 yX8_muchOf, Cond.instanceMethod yX8_muchOf, Cond.selects RX8 yX8_muchOf yX8_muchOf, Cond.code yX8_muchOf cX8_muchOf 7 (some .int), Cond.methodLink RX8 194 yX8_layThen, Cond.instanceMethod yX8_layThen, Cond.selects RX8 yX8_layThen yX8_layThen, Cond.code yX8_layThen cX8_layThen 4 none, Cond.methodLink RX8 150 yX8_lookOf, Cond.instanceMethod yX8_lookOf, Cond.selects RX8 yX8_lookOf yX8_lookOf, Cond.code yX8_lookOf cX8_lookOf 8 (some .int), Cond.methodLink RL 36 yX7_as]
def wsL_law_r21 : List Cond := [Cond.instanceMethod yX7_as, Cond.selects RX7 yX7_as yX7_as, Cond.code yX7_as cX7_as 3 (some .int), Cond.methodLink RX7 133 yX7_isSuch, Cond.static yX7_isSuch, Cond.code yX7_isSuch cX7_isSuch 2 (some .boolean), Cond.methodLink RL 39 yX8_as, Cond.instanceMethod yX8_as, Cond.selects RX8 yX8_as yX8_as, Cond.code yX8_as cX8_as 4 (some .int), Cond.constantLong RX8 160 (4), Cond.methodLink RL 40 yX7_row, Cond.instanceMethod yX7_row, Cond.selects RX7 yX7_row yX7_row, Cond.code yX7_row cX7_row 2 (some .int), Cond.methodLink RL 43 yX8_row, Cond.instanceMethod yX8_row, Cond.selects RX8 yX8_row yX8_row, Cond.code yX8_row cX8_row 2 (some .int), Cond.methodLink RL 44 yX7_hour, Cond.instanceMethod yX7_hour, Cond.selects RX7 yX7_hour yX7_hour, Cond.code yX7_hour cX7_hour 1 (some .int), Cond.methodLink RX7 140 yX1_isRead]
def wsL_law_r22 : List Cond := [Cond.instanceMethod yX1_isRead, Cond.selects RX1 yX1_isRead yX1_isRead, Cond.code yX1_isRead cX1_isRead 1 (some .boolean), Cond.methodLink RX7 143 yX5_passHour, Cond.methodLink RL 47 yX8_hour, Cond.instanceMethod yX8_hour, Cond.selects RX8 yX8_hour yX8_hour, Cond.code yX8_hour cX8_hour 1 (some .int), Cond.methodLink RX8 162 yX8_lacks, Cond.instanceMethod yX8_lacks, Cond.selects RX8 yX8_lacks yX8_lacks, Cond.code yX8_lacks cX8_lacks 1 (some .boolean), Cond.methodLink RL 48 yX7_rain, Cond.instanceMethod yX7_rain, Cond.selects RX7 yX7_rain yX7_rain, Cond.code yX7_rain cX7_rain 3 (some .int), Cond.methodLink RX7 146 yX5_addWater, Cond.methodLink RL 51 yX8_rain, Cond.instanceMethod yX8_rain, Cond.selects RX8 yX8_rain yX8_rain, Cond.code yX8_rain cX8_rain 3 (some .int), Cond.constantLong RX8 166 (50), Cond.methodLink RX8 168 yX8_rains, Cond.instanceMethod yX8_rains]
def wsL_law_r23 : List Cond := [Cond.selects RX8 yX8_rains yX8_rains, Cond.code yX8_rains cX8_rains 3 (some .int), Cond.methodLink RL 52 yX7_drought, Cond.instanceMethod yX7_drought, Cond.selects RX7 yX7_drought yX7_drought, Cond.code yX7_drought cX7_drought 2 (some .int), Cond.methodLink RX7 150 yX5_dryUp, Cond.instanceMethod yX5_dryUp, Cond.selects RX5 yX5_dryUp yX5_dryUp, Cond.code yX5_dryUp cX5_dryUp 3 (some .int), Cond.methodLink RX5 72 yX5_placeOf, Cond.methodLink RL 55 yX8_drought, Cond.instanceMethod yX8_drought, Cond.selects RX8 yX8_drought yX8_drought, Cond.code yX8_drought cX8_drought 3 (some .int), Cond.methodLink RL 56 yX7_wide, Cond.instanceMethod yX7_wide, Cond.selects RX7 yX7_wide yX7_wide, Cond.code yX7_wide cX7_wide 4 (some .int), Cond.methodLink RX7 153 yX3_widestHour, Cond.instanceMethod yX3_widestHour, Cond.selects RX3 yX3_widestHour yX3_widestHour, Cond.code yX3_widestHour cX3_widestHour 6 (some .int), Cond.methodLink RX3 56 yX5_waterInAll]
def wsL_law_r24 : List Cond := [Cond.instanceMethod yX5_waterInAll, Cond.selects RX5 yX5_waterInAll yX5_waterInAll, Cond.code yX5_waterInAll cX5_waterInAll 1 (some .int), Cond.methodLink RX5 49 yX5_sumOfRivers, Cond.instanceMethod yX5_sumOfRivers, Cond.selects RX5 yX5_sumOfRivers yX5_sumOfRivers, Cond.code yX5_sumOfRivers cX5_sumOfRivers 4 (some .int), Cond.methodLink RX7 156 yX3_waterBehind, Cond.instanceMethod yX3_waterBehind, Cond.selects RX3 yX3_waterBehind yX3_waterBehind, Cond.code yX3_waterBehind cX3_waterBehind 3 (some .int), Cond.methodLink RL 59 yX8_wide, Cond.instanceMethod yX8_wide, Cond.selects RX8 yX8_wide yX8_wide, Cond.code yX8_wide cX8_wide 3 (some .int), Cond.constantLong RX8 174 (60), Cond.methodLink RX8 176 yX8_wideOf, Cond.instanceMethod yX8_wideOf, Cond.selects RX8 yX8_wideOf yX8_wideOf, Cond.code yX8_wideOf cX8_wideOf 7 (some .int), Cond.methodLink RX8 171 yX8_standing, Cond.instanceMethod yX8_standing, Cond.selects RX8 yX8_standing yX8_standing, Cond.code yX8_standing cX8_standing 3 (some .int)]
def wsL_law_r25 : List Cond := [Cond.methodLink RL 60 yX7_best, Cond.instanceMethod yX7_best, Cond.selects RX7 yX7_best yX7_best, Cond.code yX7_best cX7_best 3 (some .int), Cond.fieldLink RX7 159 "RiversQueue" "bestsDone" "I", Cond.methodLink RX7 162 yX0_find, Cond.instanceMethod yX0_find, Cond.selects RX0 yX0_find yX0_find, Cond.code yX0_find cX0_find 3 none, Cond.fieldLink RX0 52 "RiversQueue$BestOrder" "least" "I", Cond.methodLink RX0 40 yX0_waterBehindOrder, Cond.instanceMethod yX0_waterBehindOrder, Cond.selects RX0 yX0_waterBehindOrder yX0_waterBehindOrder, Cond.code yX0_waterBehindOrder cX0_waterBehindOrder 2 (some .int), Cond.methodLink RX0 55 arraycopyName, Cond.methodLink RX0 61 yX5_copyFrom, Cond.methodLink RX0 68 yX5_passHour, Cond.methodLink RX0 71 yX5_waterInAll, Cond.methodLink RX0 44 yX0_keepAsFound, Cond.instanceMethod yX0_keepAsFound, Cond.selects RX0 yX0_keepAsFound yX0_keepAsFound, Cond.code yX0_keepAsFound cX0_keepAsFound 2 none, Cond.methodLink RX0 48 yX0_goToNextOrder, Cond.instanceMethod yX0_goToNextOrder]
def wsL_law_r26 : List Cond := [Cond.selects RX0 yX0_goToNextOrder yX0_goToNextOrder, Cond.code yX0_goToNextOrder cX0_goToNextOrder 6 (some .boolean), Cond.methodLink RX0 74 yX0_swap, Cond.instanceMethod yX0_swap, Cond.selects RX0 yX0_swap yX0_swap, Cond.code yX0_swap cX0_swap 4 none, Cond.methodLink RL 63 yX8_best, Cond.instanceMethod yX8_best, Cond.selects RX8 yX8_best yX8_best, Cond.code yX8_best cX8_best 3 (some .int), Cond.constantLong RX8 182 (10), Cond.constantLong RX8 184 (14), Cond.fieldLink RX8 186 "RiversQueueModel" "bestDone" "I", Cond.methodLink RX8 189 yX8_layBest, Cond.instanceMethod yX8_layBest, Cond.selects RX8 yX8_layBest yX8_layBest, Cond.code yX8_layBest cX8_layBest 6 (some .int), Cond.methodLink RX8 179 yX8_layStands, Cond.instanceMethod yX8_layStands, Cond.selects RX8 yX8_layStands yX8_layStands, Cond.code yX8_layStands cX8_layStands 5 (some .boolean), Cond.methodLink RL 64 yX7_see, Cond.instanceMethod yX7_see, Cond.selects RX7 yX7_see yX7_see]
def wsL_law_r27 : List Cond := [Cond.code yX7_see cX7_see 4 (some .int), Cond.methodLink RX7 171 yX6_isFull, Cond.instanceMethod yX6_isFull, Cond.selects RX6 yX6_isFull yX6_isFull, Cond.code yX6_isFull cX6_isFull 1 (some .boolean), Cond.methodLink RX7 172 yX6_add, Cond.instanceMethod yX6_add, Cond.selects RX6 yX6_add yX6_add, Cond.code yX6_add cX6_add 4 (some .int), Cond.methodLink RX6 26 yX6_isFull, Cond.methodLink RL 68 yX8_see, Cond.instanceMethod yX8_see, Cond.selects RX8 yX8_see yX8_see, Cond.code yX8_see cX8_see 4 (some .int), Cond.constantLong RX8 192 (12), Cond.methodLink RL 69 yX7_forget, Cond.instanceMethod yX7_forget, Cond.selects RX7 yX7_forget yX7_forget, Cond.code yX7_forget cX7_forget 1 (some .int), Cond.methodLink RL 72 yX8_forget, Cond.instanceMethod yX8_forget, Cond.selects RX8 yX8_forget yX8_forget, Cond.code yX8_forget cX8_forget 2 (some .int), Cond.methodLink RL 73 yX7_seasons]
def wsL_law_r28 : List Cond := [Cond.instanceMethod yX7_seasons, Cond.selects RX7 yX7_seasons yX7_seasons, Cond.code yX7_seasons cX7_seasons 5 (some .int), Cond.methodLink RX7 176 yX3_passSeasons, Cond.instanceMethod yX3_passSeasons, Cond.selects RX3 yX3_passSeasons yX3_passSeasons, Cond.code yX3_passSeasons cX3_passSeasons 7 (some .int), Cond.methodLink RX3 80 yX2_next, Cond.instanceMethod yX2_next, Cond.selects RX2 yX2_next yX2_next, Cond.code yX2_next cX2_next 2 (some .int), Cond.constantLong RX2 7 (1103515245), Cond.fieldLink RX2 9 "RiversQueue$Draws" "seed" "I", Cond.constantLong RX2 15 (12345), Cond.constantLong RX2 17 (2147483647), Cond.methodLink RX3 88 yX5_addWater, Cond.methodLink RX7 182 yX5_waterInAll, Cond.methodLink RL 77 yX8_seasons, Cond.instanceMethod yX8_seasons, Cond.selects RX8 yX8_seasons yX8_seasons, Cond.code yX8_seasons cX8_seasons 8 (some .int), Cond.constantLong RX8 208 (2), Cond.fieldLink RX8 200 "RiversQueueModel" "seedNow" "I", Cond.methodLink RX8 210 yX8_draw]
def wsL_law_r29 : List Cond := [Cond.instanceMethod yX8_draw, Cond.selects RX8 yX8_draw yX8_draw, Cond.code yX8_draw cX8_draw 2 (some .int), Cond.constantLong RX8 198 (1103515245), Cond.constantLong RX8 203 (12345), Cond.constantLong RX8 205 (2147483647), Cond.constant RX8 207 (65536), Cond.methodLink RL 78 yX7_image, Cond.instanceMethod yX7_image, Cond.selects RX7 yX7_image yX7_image, Cond.code yX7_image cX7_image 1 (some .int), Cond.methodLink RX7 194 yX5_copyFrom, Cond.methodLink RX7 198 yX6_copyFrom, Cond.instanceMethod yX6_copyFrom, Cond.selects RX6 yX6_copyFrom yX6_copyFrom, Cond.code yX6_copyFrom cX6_copyFrom 3 none, Cond.methodLink RL 81 yX8_image, Cond.instanceMethod yX8_image, Cond.selects RX8 yX8_image yX8_image, Cond.code yX8_image cX8_image 1 (some .int), Cond.fieldLink RX8 213 "RiversQueueModel" "keptHours" "I", Cond.fieldLink RX8 216 "RiversQueueModel" "keptSeen" "I", Cond.methodLink RL 82 yX7_restore, Cond.instanceMethod yX7_restore]
def wsL_law_r30 : List Cond := [Cond.selects RX7 yX7_restore yX7_restore, Cond.code yX7_restore cX7_restore 1 (some .int), Cond.methodLink RL 85 yX8_restore, Cond.instanceMethod yX8_restore, Cond.selects RX8 yX8_restore yX8_restore, Cond.code yX8_restore cX8_restore 1 (some .int), Cond.methodLink RL 86 yX7_count, Cond.instanceMethod yX7_count, Cond.selects RX7 yX7_count yX7_count, Cond.code yX7_count cX7_count 2 (some .int), Cond.methodLink RX7 207 yX5_tookInAll, Cond.instanceMethod yX5_tookInAll, Cond.selects RX5 yX5_tookInAll yX5_tookInAll, Cond.code yX5_tookInAll cX5_tookInAll 1 (some .int), Cond.methodLink RL 89 yX8_count, Cond.instanceMethod yX8_count, Cond.selects RX8 yX8_count yX8_count, Cond.code yX8_count cX8_count 2 (some .int), Cond.methodLink RX8 222 yX8_countOf, Cond.instanceMethod yX8_countOf, Cond.selects RX8 yX8_countOf yX8_countOf, Cond.code yX8_countOf cX8_countOf 2 (some .int), Cond.methodLink RX8 219 yX8_takenAll, Cond.instanceMethod yX8_takenAll]
def wsL_law_r31 : List Cond := [Cond.selects RX8 yX8_takenAll yX8_takenAll, Cond.code yX8_takenAll cX8_takenAll 3 (some .int), Cond.methodLink RL 90 yX7_digest, Cond.instanceMethod yX7_digest, Cond.selects RX7 yX7_digest yX7_digest, Cond.code yX7_digest cX7_digest 5 (some .long), Cond.constantLong RX7 214 (971), Cond.methodLink RX7 216 yX7_river, Cond.methodLink RX7 219 yX7_mixed, Cond.static yX7_mixed, Cond.code yX7_mixed cX7_mixed 4 (some .long), Cond.constantLong RX7 234 (31), Cond.methodLink RX7 223 yX7_row, Cond.methodLink RX7 225 yX7_wide, Cond.methodLink RX7 231 yX7_count, Cond.methodLink RL 94 yX8_digest, Cond.instanceMethod yX8_digest, Cond.selects RX8 yX8_digest yX8_digest, Cond.code yX8_digest cX8_digest 3 (some .long), Cond.constantLong RX8 231 (971), Cond.fieldLink RX8 227 "RiversQueueModel" "hash" "J", Cond.methodLink RX8 233 yX8_say, Cond.instanceMethod yX8_say, Cond.selects RX8 yX8_say yX8_say]
def wsL_law_r32 : List Cond := [Cond.code yX8_say cX8_say 3 none, Cond.constantLong RX8 225 (31)]
def wsL_law : List Cond := (wsL_law_r1 ++ (wsL_law_r2 ++ (wsL_law_r3 ++ (wsL_law_r4 ++ (wsL_law_r5 ++ (wsL_law_r6 ++ (wsL_law_r7 ++ (wsL_law_r8 ++ (wsL_law_r9 ++ (wsL_law_r10 ++ (wsL_law_r11 ++ (wsL_law_r12 ++ (wsL_law_r13 ++ (wsL_law_r14 ++ (wsL_law_r15 ++ (wsL_law_r16 ++ (wsL_law_r17 ++ (wsL_law_r18 ++ (wsL_law_r19 ++ (wsL_law_r20 ++ (wsL_law_r21 ++ (wsL_law_r22 ++ (wsL_law_r23 ++ (wsL_law_r24 ++ (wsL_law_r25 ++ (wsL_law_r26 ++ (wsL_law_r27 ++ (wsL_law_r28 ++ (wsL_law_r29 ++ (wsL_law_r30 ++ (wsL_law_r31 ++ wsL_law_r32))))))))))))))))))))))))))))))) ++ wsX70 ++ wsX80 ++ wsX40 ++ wsX10 ++ wsX50 ++ wsX60 ++ wsX30 ++ wsX00 ++ wsX20 ++ ([] : List Cond)
set_option maxRecDepth 20000 in
theorem aw_g1 : GoodIn lw_tbl wsL_law_r1 := goodIn_r _ [57, 58, 40, 675, 676, 48, 59, 60, 61, 62, 63, 64, 65, 66, 41, 236, 81, 82, 42, 237, 110, 111, 43, 238] (by decide +kernel) (by decide +kernel)
set_option maxRecDepth 20000 in
theorem aw_g2 : GoodIn lw_tbl wsL_law_r2 := goodIn_r _ [142, 143, 44, 239, 240, 241, 163, 164, 45, 242, 207, 208, 47, 243, 68, 69, 70, 80, 71, 84, 85, 86, 87, 90] (by decide +kernel) (by decide +kernel)
set_option maxRecDepth 20000 in
theorem aw_g3 : GoodIn lw_tbl wsL_law_r3 := goodIn_r _ [112, 113, 114, 115, 117, 120, 122, 127, 116, 145, 146, 147, 148, 149, 162, 150, 165, 166, 167, 168, 169, 170, 46, 188] (by decide +kernel) (by decide +kernel)
set_option maxRecDepth 20000 in
theorem aw_g4 : GoodIn lw_tbl wsL_law_r4 := goodIn_r _ [190, 191, 183, 184, 185, 181, 186, 172, 173, 174, 182, 209, 210, 211, 212, 218, 219, 215, 216, 213, 217, 214, 677, 678] (by decide +kernel) (by decide +kernel)
set_option maxRecDepth 20000 in
theorem aw_g5 : GoodIn lw_tbl wsL_law_r5 := goodIn_r _ [679, 680, 681, 683, 691, 692, 693, 694, 695, 698, 699, 701, 703, 704, 705, 710, 711, 712, 713, 707, 270, 271, 272, 273] (by decide +kernel) (by decide +kernel)
set_option maxRecDepth 20000 in
theorem aw_g6 : GoodIn lw_tbl wsL_law_r6 := goodIn_r _ [274, 275, 276, 277, 278, 279, 280, 73, 281, 282, 283, 284, 285, 784, 785, 786, 787, 788, 682, 789, 790, 791, 286, 287] (by decide +kernel) (by decide +kernel)
set_option maxRecDepth 20000 in
theorem aw_g7 : GoodIn lw_tbl wsL_law_r7 := goodIn_r _ [288, 289, 290, 291, 292, 293, 792, 793, 794, 795, 294, 295, 296, 297, 298, 299, 300, 301, 302, 304, 0, 305, 306, 308] (by decide +kernel) (by decide +kernel)
set_option maxRecDepth 20000 in
theorem aw_g8 : GoodIn lw_tbl wsL_law_r8 := goodIn_r _ [1, 309, 310, 312, 2, 313, 316, 317, 318, 49, 319, 320, 321, 322, 323, 982, 324, 325, 326, 327, 328, 981, 330, 331] (by decide +kernel) (by decide +kernel)
set_option maxRecDepth 20000 in
theorem aw_g9 : GoodIn lw_tbl wsL_law_r9 := goodIn_r _ [332, 333, 334, 335, 336, 337, 338, 339, 50, 340, 344, 345, 51, 346, 347, 348, 349, 341, 342, 343, 350, 351, 352, 353] (by decide +kernel) (by decide +kernel)
set_option maxRecDepth 20000 in
theorem aw_g10 : GoodIn lw_tbl wsL_law_r10 := goodIn_r _ [354, 52, 355, 356, 357, 358, 359, 360, 361, 362, 363, 364, 365, 366, 367, 368, 369, 370, 371, 373, 374, 53, 375, 376] (by decide +kernel) (by decide +kernel)
set_option maxRecDepth 20000 in
theorem aw_g11 : GoodIn lw_tbl wsL_law_r11 := goodIn_r _ [377, 378, 379, 380, 381, 382, 384, 386, 388, 389, 390, 391, 392, 54, 393, 394, 395, 396, 397, 398, 399, 400, 401, 402] (by decide +kernel) (by decide +kernel)
set_option maxRecDepth 20000 in
theorem aw_g12 : GoodIn lw_tbl wsL_law_r12 := goodIn_r _ [403, 404, 796, 797, 798, 799, 800, 802, 15, 803, 684, 686, 804, 806, 16, 807, 811, 812, 685, 808, 809, 810, 406, 407] (by decide +kernel) (by decide +kernel)
set_option maxRecDepth 20000 in
theorem aw_g13 : GoodIn lw_tbl wsL_law_r13 := goodIn_r _ [408, 409, 244, 245, 410, 411, 412, 413, 414, 415, 416, 417, 418, 423, 95, 98, 419, 420, 421, 422, 424, 425, 426, 427] (by decide +kernel) (by decide +kernel)
set_option maxRecDepth 20000 in
theorem aw_g14 : GoodIn lw_tbl wsL_law_r14 := goodIn_r _ [428, 429, 430, 431, 432, 433, 434, 435, 436, 437, 438, 439, 125, 440, 441, 442, 443, 444, 445, 446, 447, 151, 813, 814] (by decide +kernel) (by decide +kernel)
set_option maxRecDepth 20000 in
theorem aw_g15 : GoodIn lw_tbl wsL_law_r15 := goodIn_r _ [815, 816, 687, 688, 689, 702, 690, 448, 449, 450, 451, 452, 453, 454, 455, 456, 457, 458, 459, 460, 461, 462, 463, 464] (by decide +kernel) (by decide +kernel)
set_option maxRecDepth 20000 in
theorem aw_g16 : GoodIn lw_tbl wsL_law_r16 := goodIn_r _ [465, 466, 467, 468, 470, 469, 55, 471, 472, 473, 474, 475, 476, 477, 478, 479, 480, 482, 3, 483, 484, 486, 4, 487] (by decide +kernel) (by decide +kernel)
set_option maxRecDepth 20000 in
theorem aw_g17 : GoodIn lw_tbl wsL_law_r17 := goodIn_r _ [488, 490, 5, 491, 492, 494, 6, 495, 496, 497, 498, 499, 500, 501, 503, 7, 504, 505, 506, 507, 508, 509, 510, 511] (by decide +kernel) (by decide +kernel)
set_option maxRecDepth 20000 in
theorem aw_g18 : GoodIn lw_tbl wsL_law_r18 := goodIn_r _ [512, 513, 514, 56, 515, 516, 518, 8, 519, 520, 522, 9, 523, 524, 817, 818, 819, 820, 821, 823, 17, 824, 825, 827] (by decide +kernel) (by decide +kernel)
set_option maxRecDepth 20000 in
theorem aw_g19 : GoodIn lw_tbl wsL_law_r19 := goodIn_r _ [18, 828, 829, 831, 19, 832, 833, 835, 20, 836, 696, 837, 839, 21, 840, 841, 842, 843, 844, 846, 22, 847, 697, 848] (by decide +kernel) (by decide +kernel)
set_option maxRecDepth 20000 in
theorem aw_g20 : GoodIn lw_tbl wsL_law_r20 := goodIn_r _ [850, 23, 851, 852, 854, 24, 855, 856, 858, 25, 859, 860, 862, 26, 863, 864, 866, 27, 867, 868, 870, 28, 871, 525] (by decide +kernel) (by decide +kernel)
set_option maxRecDepth 20000 in
theorem aw_g21 : GoodIn lw_tbl wsL_law_r21 := goodIn_r _ [526, 527, 528, 529, 530, 531, 872, 873, 874, 875, 876, 532, 533, 534, 535, 877, 878, 879, 880, 536, 537, 538, 539, 540] (by decide +kernel) (by decide +kernel)
set_option maxRecDepth 20000 in
theorem aw_g22 : GoodIn lw_tbl wsL_law_r22 := goodIn_r _ [541, 542, 543, 544, 881, 882, 883, 884, 885, 887, 29, 888, 545, 546, 547, 548, 549, 889, 890, 891, 892, 893, 894, 896] (by decide +kernel) (by decide +kernel)
set_option maxRecDepth 20000 in
theorem aw_g23 : GoodIn lw_tbl wsL_law_r23 := goodIn_r _ [30, 897, 550, 551, 552, 553, 554, 555, 556, 557, 558, 898, 899, 900, 901, 559, 560, 561, 562, 563, 564, 565, 566, 567] (by decide +kernel) (by decide +kernel)
set_option maxRecDepth 20000 in
theorem aw_g24 : GoodIn lw_tbl wsL_law_r24 := goodIn_r _ [568, 569, 570, 571, 573, 10, 574, 575, 576, 577, 578, 902, 903, 904, 905, 906, 907, 909, 31, 910, 911, 913, 32, 914] (by decide +kernel) (by decide +kernel)
set_option maxRecDepth 20000 in
theorem aw_g25 : GoodIn lw_tbl wsL_law_r25 := goodIn_r _ [579, 580, 581, 582, 246, 583, 584, 585, 586, 221, 587, 589, 11, 590, 592, 591, 593, 594, 595, 597, 12, 598, 599, 601] (by decide +kernel) (by decide +kernel)
set_option maxRecDepth 20000 in
theorem aw_g26 : GoodIn lw_tbl wsL_law_r26 := goodIn_r _ [13, 602, 603, 605, 14, 606, 915, 916, 917, 918, 919, 920, 700, 921, 923, 33, 924, 925, 927, 34, 928, 607, 608, 609] (by decide +kernel) (by decide +kernel)
set_option maxRecDepth 20000 in
theorem aw_g27 : GoodIn lw_tbl wsL_law_r27 := goodIn_r _ [610, 611, 612, 613, 614, 615, 616, 617, 618, 619, 929, 930, 931, 932, 933, 620, 621, 622, 623, 934, 935, 936, 937, 624] (by decide +kernel) (by decide +kernel)
set_option maxRecDepth 20000 in
theorem aw_g28 : GoodIn lw_tbl wsL_law_r28 := goodIn_r _ [625, 626, 627, 628, 629, 630, 631, 632, 633, 634, 635, 636, 175, 637, 638, 639, 640, 938, 939, 940, 941, 942, 706, 943] (by decide +kernel) (by decide +kernel)
set_option maxRecDepth 20000 in
theorem aw_g29 : GoodIn lw_tbl wsL_law_r29 := goodIn_r _ [945, 35, 946, 947, 948, 949, 950, 641, 642, 643, 644, 645, 646, 647, 648, 649, 951, 952, 953, 954, 708, 709, 650, 651] (by decide +kernel) (by decide +kernel)
set_option maxRecDepth 20000 in
theorem aw_g30 : GoodIn lw_tbl wsL_law_r30 := goodIn_r _ [652, 653, 955, 956, 957, 958, 654, 655, 656, 657, 658, 659, 660, 661, 959, 960, 961, 962, 963, 965, 36, 966, 967, 969] (by decide +kernel) (by decide +kernel)
set_option maxRecDepth 20000 in
theorem aw_g31 : GoodIn lw_tbl wsL_law_r31 := goodIn_r _ [37, 970, 662, 663, 664, 665, 666, 667, 668, 669, 670, 671, 672, 673, 674, 971, 972, 973, 974, 975, 714, 976, 978, 38] (by decide +kernel) (by decide +kernel)
set_option maxRecDepth 20000 in
theorem aw_g32 : GoodIn lw_tbl wsL_law_r32 := goodIn_r _ [979, 980] (by decide +kernel) (by decide +kernel)
set_option maxRecDepth 20000 in
theorem aw_g_wsX70 : GoodIn lw_tbl wsX70 := goodIn_r _ [247, 249, 251, 253, 255, 257, 259, 261, 263, 265, 267] (by decide +kernel) (by decide +kernel)
set_option maxRecDepth 20000 in
theorem aw_g_wsX80 : GoodIn lw_tbl wsX80 := goodIn_r _ [715, 717, 719, 721, 723, 725, 727, 729, 731, 733, 735, 737, 739, 741, 743, 745, 747, 749, 751, 753, 755, 757, 759, 761, 763, 765, 767, 769, 771, 773, 775, 777, 779, 781] (by decide +kernel) (by decide +kernel)
set_option maxRecDepth 20000 in
theorem aw_g_wsX40 : GoodIn lw_tbl wsX40 := goodIn_r _ [75, 77] (by decide +kernel) (by decide +kernel)
set_option maxRecDepth 20000 in
theorem aw_g_wsX10 : GoodIn lw_tbl wsX10 := goodIn_r _ [101, 103, 105, 107] (by decide +kernel) (by decide +kernel)
set_option maxRecDepth 20000 in
theorem aw_g_wsX50 : GoodIn lw_tbl wsX50 := goodIn_r _ [129, 131, 133, 135, 137, 139] (by decide +kernel) (by decide +kernel)
set_option maxRecDepth 20000 in
theorem aw_g_wsX60 : GoodIn lw_tbl wsX60 := goodIn_r _ [153, 155, 157, 159] (by decide +kernel) (by decide +kernel)
set_option maxRecDepth 20000 in
theorem aw_g_wsX30 : GoodIn lw_tbl wsX30 := goodIn_r _ [192, 194, 196, 198, 200, 202, 204] (by decide +kernel) (by decide +kernel)
set_option maxRecDepth 20000 in
theorem aw_g_wsX00 : GoodIn lw_tbl wsX00 := goodIn_r _ [223, 225, 227, 229, 231, 233] (by decide +kernel) (by decide +kernel)
set_option maxRecDepth 20000 in
theorem aw_g_wsX20 : GoodIn lw_tbl wsX20 := goodIn_r _ [178] (by decide +kernel) (by decide +kernel)
theorem wsL_law_gd : GoodIn lw_tbl wsL_law := goodIn_app (goodIn_app (goodIn_app (goodIn_app (goodIn_app (goodIn_app (goodIn_app (goodIn_app (goodIn_app (goodIn_app (goodIn_app aw_g1 (goodIn_app aw_g2 (goodIn_app aw_g3 (goodIn_app aw_g4 (goodIn_app aw_g5 (goodIn_app aw_g6 (goodIn_app aw_g7 (goodIn_app aw_g8 (goodIn_app aw_g9 (goodIn_app aw_g10 (goodIn_app aw_g11 (goodIn_app aw_g12 (goodIn_app aw_g13 (goodIn_app aw_g14 (goodIn_app aw_g15 (goodIn_app aw_g16 (goodIn_app aw_g17 (goodIn_app aw_g18 (goodIn_app aw_g19 (goodIn_app aw_g20 (goodIn_app aw_g21 (goodIn_app aw_g22 (goodIn_app aw_g23 (goodIn_app aw_g24 (goodIn_app aw_g25 (goodIn_app aw_g26 (goodIn_app aw_g27 (goodIn_app aw_g28 (goodIn_app aw_g29 (goodIn_app aw_g30 (goodIn_app aw_g31 (aw_g32)))))))))))))))))))))))))))))))) aw_g_wsX70) aw_g_wsX80) aw_g_wsX40) aw_g_wsX10) aw_g_wsX50) aw_g_wsX60) aw_g_wsX30) aw_g_wsX00) aw_g_wsX20) (fun _ h => absurd h List.not_mem_nil)
theorem wsL_law_in : ∀ w ∈ wsL_law, w ∈ lw_tbl := fun w h => (wsL_law_gd w h).1
theorem inlX0 : ∀ w ∈ wsX00, w ∈ wsL_law := fun _ h => List.mem_append_left _ (List.mem_append_left _ (List.mem_append_right _ h))
theorem inlX1 : ∀ w ∈ wsX10, w ∈ wsL_law := fun _ h => List.mem_append_left _ (List.mem_append_left _ (List.mem_append_left _ (List.mem_append_left _ (List.mem_append_left _ (List.mem_append_left _ (List.mem_append_right _ h))))))
theorem inlX2 : ∀ w ∈ wsX20, w ∈ wsL_law := fun _ h => List.mem_append_left _ (List.mem_append_right _ h)
theorem inlX3 : ∀ w ∈ wsX30, w ∈ wsL_law := fun _ h => List.mem_append_left _ (List.mem_append_left _ (List.mem_append_left _ (List.mem_append_right _ h)))
theorem inlX4 : ∀ w ∈ wsX40, w ∈ wsL_law := fun _ h => List.mem_append_left _ (List.mem_append_left _ (List.mem_append_left _ (List.mem_append_left _ (List.mem_append_left _ (List.mem_append_left _ (List.mem_append_left _ (List.mem_append_right _ h)))))))
theorem inlX5 : ∀ w ∈ wsX50, w ∈ wsL_law := fun _ h => List.mem_append_left _ (List.mem_append_left _ (List.mem_append_left _ (List.mem_append_left _ (List.mem_append_left _ (List.mem_append_right _ h)))))
theorem inlX6 : ∀ w ∈ wsX60, w ∈ wsL_law := fun _ h => List.mem_append_left _ (List.mem_append_left _ (List.mem_append_left _ (List.mem_append_left _ (List.mem_append_right _ h))))
theorem inlX7 : ∀ w ∈ wsX70, w ∈ wsL_law := fun _ h => List.mem_append_left _ (List.mem_append_left _ (List.mem_append_left _ (List.mem_append_left _ (List.mem_append_left _ (List.mem_append_left _ (List.mem_append_left _ (List.mem_append_left _ (List.mem_append_left _ (List.mem_append_right _ h)))))))))
theorem inlX8 : ∀ w ∈ wsX80, w ∈ wsL_law := fun _ h => List.mem_append_left _ (List.mem_append_left _ (List.mem_append_left _ (List.mem_append_left _ (List.mem_append_left _ (List.mem_append_left _ (List.mem_append_left _ (List.mem_append_left _ (List.mem_append_right _ h))))))))
abbrev vwCl : List vw_C := [(RX0, TX0, 6), (RX1, TX1, 4), (RX2, TX2, 1), (RX3, TX3, 7), (RX4, TX4, 2), (RX5, TX5, 6), (RX6, TX6, 4), (RX7, TX7, 11), (RX8, TX8, 34)]
end
section
theorem aw_p1 : ∀ w ∈ wsL_law_r1, w ∈ wsL_law := fun _ h => List.mem_append_left _ (List.mem_append_left _ (List.mem_append_left _ (List.mem_append_left _ (List.mem_append_left _ (List.mem_append_left _ (List.mem_append_left _ (List.mem_append_left _ (List.mem_append_left _ (List.mem_append_left _ (List.mem_append_left _ h))))))))))
theorem aw_p2 : ∀ w ∈ wsL_law_r2, w ∈ wsL_law := fun _ h => List.mem_append_left _ (List.mem_append_left _ (List.mem_append_left _ (List.mem_append_left _ (List.mem_append_left _ (List.mem_append_left _ (List.mem_append_left _ (List.mem_append_left _ (List.mem_append_left _ (List.mem_append_left _ (List.mem_append_right _ (List.mem_append_left _ h)))))))))))
theorem aw_p3 : ∀ w ∈ wsL_law_r3, w ∈ wsL_law := fun _ h => List.mem_append_left _ (List.mem_append_left _ (List.mem_append_left _ (List.mem_append_left _ (List.mem_append_left _ (List.mem_append_left _ (List.mem_append_left _ (List.mem_append_left _ (List.mem_append_left _ (List.mem_append_left _ (List.mem_append_right _ (List.mem_append_right _ (List.mem_append_left _ h))))))))))))
theorem aw_p4 : ∀ w ∈ wsL_law_r4, w ∈ wsL_law := fun _ h => List.mem_append_left _ (List.mem_append_left _ (List.mem_append_left _ (List.mem_append_left _ (List.mem_append_left _ (List.mem_append_left _ (List.mem_append_left _ (List.mem_append_left _ (List.mem_append_left _ (List.mem_append_left _ (List.mem_append_right _ (List.mem_append_right _ (List.mem_append_right _ (List.mem_append_left _ h)))))))))))))
theorem aw_p5 : ∀ w ∈ wsL_law_r5, w ∈ wsL_law := fun _ h => List.mem_append_left _ (List.mem_append_left _ (List.mem_append_left _ (List.mem_append_left _ (List.mem_append_left _ (List.mem_append_left _ (List.mem_append_left _ (List.mem_append_left _ (List.mem_append_left _ (List.mem_append_left _ (List.mem_append_right _ (List.mem_append_right _ (List.mem_append_right _ (List.mem_append_right _ (List.mem_append_left _ h))))))))))))))
theorem aw_p6 : ∀ w ∈ wsL_law_r6, w ∈ wsL_law := fun _ h => List.mem_append_left _ (List.mem_append_left _ (List.mem_append_left _ (List.mem_append_left _ (List.mem_append_left _ (List.mem_append_left _ (List.mem_append_left _ (List.mem_append_left _ (List.mem_append_left _ (List.mem_append_left _ (List.mem_append_right _ (List.mem_append_right _ (List.mem_append_right _ (List.mem_append_right _ (List.mem_append_right _ (List.mem_append_left _ h)))))))))))))))
theorem aw_p7 : ∀ w ∈ wsL_law_r7, w ∈ wsL_law := fun _ h => List.mem_append_left _ (List.mem_append_left _ (List.mem_append_left _ (List.mem_append_left _ (List.mem_append_left _ (List.mem_append_left _ (List.mem_append_left _ (List.mem_append_left _ (List.mem_append_left _ (List.mem_append_left _ (List.mem_append_right _ (List.mem_append_right _ (List.mem_append_right _ (List.mem_append_right _ (List.mem_append_right _ (List.mem_append_right _ (List.mem_append_left _ h))))))))))))))))
theorem aw_p8 : ∀ w ∈ wsL_law_r8, w ∈ wsL_law := fun _ h => List.mem_append_left _ (List.mem_append_left _ (List.mem_append_left _ (List.mem_append_left _ (List.mem_append_left _ (List.mem_append_left _ (List.mem_append_left _ (List.mem_append_left _ (List.mem_append_left _ (List.mem_append_left _ (List.mem_append_right _ (List.mem_append_right _ (List.mem_append_right _ (List.mem_append_right _ (List.mem_append_right _ (List.mem_append_right _ (List.mem_append_right _ (List.mem_append_left _ h)))))))))))))))))
theorem aw_p9 : ∀ w ∈ wsL_law_r9, w ∈ wsL_law := fun _ h => List.mem_append_left _ (List.mem_append_left _ (List.mem_append_left _ (List.mem_append_left _ (List.mem_append_left _ (List.mem_append_left _ (List.mem_append_left _ (List.mem_append_left _ (List.mem_append_left _ (List.mem_append_left _ (List.mem_append_right _ (List.mem_append_right _ (List.mem_append_right _ (List.mem_append_right _ (List.mem_append_right _ (List.mem_append_right _ (List.mem_append_right _ (List.mem_append_right _ (List.mem_append_left _ h))))))))))))))))))
theorem aw_p10 : ∀ w ∈ wsL_law_r10, w ∈ wsL_law := fun _ h => List.mem_append_left _ (List.mem_append_left _ (List.mem_append_left _ (List.mem_append_left _ (List.mem_append_left _ (List.mem_append_left _ (List.mem_append_left _ (List.mem_append_left _ (List.mem_append_left _ (List.mem_append_left _ (List.mem_append_right _ (List.mem_append_right _ (List.mem_append_right _ (List.mem_append_right _ (List.mem_append_right _ (List.mem_append_right _ (List.mem_append_right _ (List.mem_append_right _ (List.mem_append_right _ (List.mem_append_left _ h)))))))))))))))))))
theorem aw_p11 : ∀ w ∈ wsL_law_r11, w ∈ wsL_law := fun _ h => List.mem_append_left _ (List.mem_append_left _ (List.mem_append_left _ (List.mem_append_left _ (List.mem_append_left _ (List.mem_append_left _ (List.mem_append_left _ (List.mem_append_left _ (List.mem_append_left _ (List.mem_append_left _ (List.mem_append_right _ (List.mem_append_right _ (List.mem_append_right _ (List.mem_append_right _ (List.mem_append_right _ (List.mem_append_right _ (List.mem_append_right _ (List.mem_append_right _ (List.mem_append_right _ (List.mem_append_right _ (List.mem_append_left _ h))))))))))))))))))))
theorem aw_p12 : ∀ w ∈ wsL_law_r12, w ∈ wsL_law := fun _ h => List.mem_append_left _ (List.mem_append_left _ (List.mem_append_left _ (List.mem_append_left _ (List.mem_append_left _ (List.mem_append_left _ (List.mem_append_left _ (List.mem_append_left _ (List.mem_append_left _ (List.mem_append_left _ (List.mem_append_right _ (List.mem_append_right _ (List.mem_append_right _ (List.mem_append_right _ (List.mem_append_right _ (List.mem_append_right _ (List.mem_append_right _ (List.mem_append_right _ (List.mem_append_right _ (List.mem_append_right _ (List.mem_append_right _ (List.mem_append_left _ h)))))))))))))))))))))
theorem aw_p13 : ∀ w ∈ wsL_law_r13, w ∈ wsL_law := fun _ h => List.mem_append_left _ (List.mem_append_left _ (List.mem_append_left _ (List.mem_append_left _ (List.mem_append_left _ (List.mem_append_left _ (List.mem_append_left _ (List.mem_append_left _ (List.mem_append_left _ (List.mem_append_left _ (List.mem_append_right _ (List.mem_append_right _ (List.mem_append_right _ (List.mem_append_right _ (List.mem_append_right _ (List.mem_append_right _ (List.mem_append_right _ (List.mem_append_right _ (List.mem_append_right _ (List.mem_append_right _ (List.mem_append_right _ (List.mem_append_right _ (List.mem_append_left _ h))))))))))))))))))))))
theorem aw_p14 : ∀ w ∈ wsL_law_r14, w ∈ wsL_law := fun _ h => List.mem_append_left _ (List.mem_append_left _ (List.mem_append_left _ (List.mem_append_left _ (List.mem_append_left _ (List.mem_append_left _ (List.mem_append_left _ (List.mem_append_left _ (List.mem_append_left _ (List.mem_append_left _ (List.mem_append_right _ (List.mem_append_right _ (List.mem_append_right _ (List.mem_append_right _ (List.mem_append_right _ (List.mem_append_right _ (List.mem_append_right _ (List.mem_append_right _ (List.mem_append_right _ (List.mem_append_right _ (List.mem_append_right _ (List.mem_append_right _ (List.mem_append_right _ (List.mem_append_left _ h)))))))))))))))))))))))
theorem aw_p15 : ∀ w ∈ wsL_law_r15, w ∈ wsL_law := fun _ h => List.mem_append_left _ (List.mem_append_left _ (List.mem_append_left _ (List.mem_append_left _ (List.mem_append_left _ (List.mem_append_left _ (List.mem_append_left _ (List.mem_append_left _ (List.mem_append_left _ (List.mem_append_left _ (List.mem_append_right _ (List.mem_append_right _ (List.mem_append_right _ (List.mem_append_right _ (List.mem_append_right _ (List.mem_append_right _ (List.mem_append_right _ (List.mem_append_right _ (List.mem_append_right _ (List.mem_append_right _ (List.mem_append_right _ (List.mem_append_right _ (List.mem_append_right _ (List.mem_append_right _ (List.mem_append_left _ h))))))))))))))))))))))))
theorem aw_p16 : ∀ w ∈ wsL_law_r16, w ∈ wsL_law := fun _ h => List.mem_append_left _ (List.mem_append_left _ (List.mem_append_left _ (List.mem_append_left _ (List.mem_append_left _ (List.mem_append_left _ (List.mem_append_left _ (List.mem_append_left _ (List.mem_append_left _ (List.mem_append_left _ (List.mem_append_right _ (List.mem_append_right _ (List.mem_append_right _ (List.mem_append_right _ (List.mem_append_right _ (List.mem_append_right _ (List.mem_append_right _ (List.mem_append_right _ (List.mem_append_right _ (List.mem_append_right _ (List.mem_append_right _ (List.mem_append_right _ (List.mem_append_right _ (List.mem_append_right _ (List.mem_append_right _ (List.mem_append_left _ h)))))))))))))))))))))))))
theorem aw_p17 : ∀ w ∈ wsL_law_r17, w ∈ wsL_law := fun _ h => List.mem_append_left _ (List.mem_append_left _ (List.mem_append_left _ (List.mem_append_left _ (List.mem_append_left _ (List.mem_append_left _ (List.mem_append_left _ (List.mem_append_left _ (List.mem_append_left _ (List.mem_append_left _ (List.mem_append_right _ (List.mem_append_right _ (List.mem_append_right _ (List.mem_append_right _ (List.mem_append_right _ (List.mem_append_right _ (List.mem_append_right _ (List.mem_append_right _ (List.mem_append_right _ (List.mem_append_right _ (List.mem_append_right _ (List.mem_append_right _ (List.mem_append_right _ (List.mem_append_right _ (List.mem_append_right _ (List.mem_append_right _ (List.mem_append_left _ h))))))))))))))))))))))))))
theorem aw_p18 : ∀ w ∈ wsL_law_r18, w ∈ wsL_law := fun _ h => List.mem_append_left _ (List.mem_append_left _ (List.mem_append_left _ (List.mem_append_left _ (List.mem_append_left _ (List.mem_append_left _ (List.mem_append_left _ (List.mem_append_left _ (List.mem_append_left _ (List.mem_append_left _ (List.mem_append_right _ (List.mem_append_right _ (List.mem_append_right _ (List.mem_append_right _ (List.mem_append_right _ (List.mem_append_right _ (List.mem_append_right _ (List.mem_append_right _ (List.mem_append_right _ (List.mem_append_right _ (List.mem_append_right _ (List.mem_append_right _ (List.mem_append_right _ (List.mem_append_right _ (List.mem_append_right _ (List.mem_append_right _ (List.mem_append_right _ (List.mem_append_left _ h)))))))))))))))))))))))))))
theorem aw_p19 : ∀ w ∈ wsL_law_r19, w ∈ wsL_law := fun _ h => List.mem_append_left _ (List.mem_append_left _ (List.mem_append_left _ (List.mem_append_left _ (List.mem_append_left _ (List.mem_append_left _ (List.mem_append_left _ (List.mem_append_left _ (List.mem_append_left _ (List.mem_append_left _ (List.mem_append_right _ (List.mem_append_right _ (List.mem_append_right _ (List.mem_append_right _ (List.mem_append_right _ (List.mem_append_right _ (List.mem_append_right _ (List.mem_append_right _ (List.mem_append_right _ (List.mem_append_right _ (List.mem_append_right _ (List.mem_append_right _ (List.mem_append_right _ (List.mem_append_right _ (List.mem_append_right _ (List.mem_append_right _ (List.mem_append_right _ (List.mem_append_right _ (List.mem_append_left _ h))))))))))))))))))))))))))))
theorem aw_p20 : ∀ w ∈ wsL_law_r20, w ∈ wsL_law := fun _ h => List.mem_append_left _ (List.mem_append_left _ (List.mem_append_left _ (List.mem_append_left _ (List.mem_append_left _ (List.mem_append_left _ (List.mem_append_left _ (List.mem_append_left _ (List.mem_append_left _ (List.mem_append_left _ (List.mem_append_right _ (List.mem_append_right _ (List.mem_append_right _ (List.mem_append_right _ (List.mem_append_right _ (List.mem_append_right _ (List.mem_append_right _ (List.mem_append_right _ (List.mem_append_right _ (List.mem_append_right _ (List.mem_append_right _ (List.mem_append_right _ (List.mem_append_right _ (List.mem_append_right _ (List.mem_append_right _ (List.mem_append_right _ (List.mem_append_right _ (List.mem_append_right _ (List.mem_append_right _ (List.mem_append_left _ h)))))))))))))))))))))))))))))
theorem aw_p21 : ∀ w ∈ wsL_law_r21, w ∈ wsL_law := fun _ h => List.mem_append_left _ (List.mem_append_left _ (List.mem_append_left _ (List.mem_append_left _ (List.mem_append_left _ (List.mem_append_left _ (List.mem_append_left _ (List.mem_append_left _ (List.mem_append_left _ (List.mem_append_left _ (List.mem_append_right _ (List.mem_append_right _ (List.mem_append_right _ (List.mem_append_right _ (List.mem_append_right _ (List.mem_append_right _ (List.mem_append_right _ (List.mem_append_right _ (List.mem_append_right _ (List.mem_append_right _ (List.mem_append_right _ (List.mem_append_right _ (List.mem_append_right _ (List.mem_append_right _ (List.mem_append_right _ (List.mem_append_right _ (List.mem_append_right _ (List.mem_append_right _ (List.mem_append_right _ (List.mem_append_right _ (List.mem_append_left _ h))))))))))))))))))))))))))))))
theorem aw_p22 : ∀ w ∈ wsL_law_r22, w ∈ wsL_law := fun _ h => List.mem_append_left _ (List.mem_append_left _ (List.mem_append_left _ (List.mem_append_left _ (List.mem_append_left _ (List.mem_append_left _ (List.mem_append_left _ (List.mem_append_left _ (List.mem_append_left _ (List.mem_append_left _ (List.mem_append_right _ (List.mem_append_right _ (List.mem_append_right _ (List.mem_append_right _ (List.mem_append_right _ (List.mem_append_right _ (List.mem_append_right _ (List.mem_append_right _ (List.mem_append_right _ (List.mem_append_right _ (List.mem_append_right _ (List.mem_append_right _ (List.mem_append_right _ (List.mem_append_right _ (List.mem_append_right _ (List.mem_append_right _ (List.mem_append_right _ (List.mem_append_right _ (List.mem_append_right _ (List.mem_append_right _ (List.mem_append_right _ (List.mem_append_left _ h)))))))))))))))))))))))))))))))
theorem aw_p23 : ∀ w ∈ wsL_law_r23, w ∈ wsL_law := fun _ h => List.mem_append_left _ (List.mem_append_left _ (List.mem_append_left _ (List.mem_append_left _ (List.mem_append_left _ (List.mem_append_left _ (List.mem_append_left _ (List.mem_append_left _ (List.mem_append_left _ (List.mem_append_left _ (List.mem_append_right _ (List.mem_append_right _ (List.mem_append_right _ (List.mem_append_right _ (List.mem_append_right _ (List.mem_append_right _ (List.mem_append_right _ (List.mem_append_right _ (List.mem_append_right _ (List.mem_append_right _ (List.mem_append_right _ (List.mem_append_right _ (List.mem_append_right _ (List.mem_append_right _ (List.mem_append_right _ (List.mem_append_right _ (List.mem_append_right _ (List.mem_append_right _ (List.mem_append_right _ (List.mem_append_right _ (List.mem_append_right _ (List.mem_append_right _ (List.mem_append_left _ h))))))))))))))))))))))))))))))))
theorem aw_p24 : ∀ w ∈ wsL_law_r24, w ∈ wsL_law := fun _ h => List.mem_append_left _ (List.mem_append_left _ (List.mem_append_left _ (List.mem_append_left _ (List.mem_append_left _ (List.mem_append_left _ (List.mem_append_left _ (List.mem_append_left _ (List.mem_append_left _ (List.mem_append_left _ (List.mem_append_right _ (List.mem_append_right _ (List.mem_append_right _ (List.mem_append_right _ (List.mem_append_right _ (List.mem_append_right _ (List.mem_append_right _ (List.mem_append_right _ (List.mem_append_right _ (List.mem_append_right _ (List.mem_append_right _ (List.mem_append_right _ (List.mem_append_right _ (List.mem_append_right _ (List.mem_append_right _ (List.mem_append_right _ (List.mem_append_right _ (List.mem_append_right _ (List.mem_append_right _ (List.mem_append_right _ (List.mem_append_right _ (List.mem_append_right _ (List.mem_append_right _ (List.mem_append_left _ h)))))))))))))))))))))))))))))))))
theorem aw_p25 : ∀ w ∈ wsL_law_r25, w ∈ wsL_law := fun _ h => List.mem_append_left _ (List.mem_append_left _ (List.mem_append_left _ (List.mem_append_left _ (List.mem_append_left _ (List.mem_append_left _ (List.mem_append_left _ (List.mem_append_left _ (List.mem_append_left _ (List.mem_append_left _ (List.mem_append_right _ (List.mem_append_right _ (List.mem_append_right _ (List.mem_append_right _ (List.mem_append_right _ (List.mem_append_right _ (List.mem_append_right _ (List.mem_append_right _ (List.mem_append_right _ (List.mem_append_right _ (List.mem_append_right _ (List.mem_append_right _ (List.mem_append_right _ (List.mem_append_right _ (List.mem_append_right _ (List.mem_append_right _ (List.mem_append_right _ (List.mem_append_right _ (List.mem_append_right _ (List.mem_append_right _ (List.mem_append_right _ (List.mem_append_right _ (List.mem_append_right _ (List.mem_append_right _ (List.mem_append_left _ h))))))))))))))))))))))))))))))))))
theorem aw_p26 : ∀ w ∈ wsL_law_r26, w ∈ wsL_law := fun _ h => List.mem_append_left _ (List.mem_append_left _ (List.mem_append_left _ (List.mem_append_left _ (List.mem_append_left _ (List.mem_append_left _ (List.mem_append_left _ (List.mem_append_left _ (List.mem_append_left _ (List.mem_append_left _ (List.mem_append_right _ (List.mem_append_right _ (List.mem_append_right _ (List.mem_append_right _ (List.mem_append_right _ (List.mem_append_right _ (List.mem_append_right _ (List.mem_append_right _ (List.mem_append_right _ (List.mem_append_right _ (List.mem_append_right _ (List.mem_append_right _ (List.mem_append_right _ (List.mem_append_right _ (List.mem_append_right _ (List.mem_append_right _ (List.mem_append_right _ (List.mem_append_right _ (List.mem_append_right _ (List.mem_append_right _ (List.mem_append_right _ (List.mem_append_right _ (List.mem_append_right _ (List.mem_append_right _ (List.mem_append_right _ (List.mem_append_left _ h)))))))))))))))))))))))))))))))))))
theorem aw_p27 : ∀ w ∈ wsL_law_r27, w ∈ wsL_law := fun _ h => List.mem_append_left _ (List.mem_append_left _ (List.mem_append_left _ (List.mem_append_left _ (List.mem_append_left _ (List.mem_append_left _ (List.mem_append_left _ (List.mem_append_left _ (List.mem_append_left _ (List.mem_append_left _ (List.mem_append_right _ (List.mem_append_right _ (List.mem_append_right _ (List.mem_append_right _ (List.mem_append_right _ (List.mem_append_right _ (List.mem_append_right _ (List.mem_append_right _ (List.mem_append_right _ (List.mem_append_right _ (List.mem_append_right _ (List.mem_append_right _ (List.mem_append_right _ (List.mem_append_right _ (List.mem_append_right _ (List.mem_append_right _ (List.mem_append_right _ (List.mem_append_right _ (List.mem_append_right _ (List.mem_append_right _ (List.mem_append_right _ (List.mem_append_right _ (List.mem_append_right _ (List.mem_append_right _ (List.mem_append_right _ (List.mem_append_right _ (List.mem_append_left _ h))))))))))))))))))))))))))))))))))))
theorem aw_p28 : ∀ w ∈ wsL_law_r28, w ∈ wsL_law := fun _ h => List.mem_append_left _ (List.mem_append_left _ (List.mem_append_left _ (List.mem_append_left _ (List.mem_append_left _ (List.mem_append_left _ (List.mem_append_left _ (List.mem_append_left _ (List.mem_append_left _ (List.mem_append_left _ (List.mem_append_right _ (List.mem_append_right _ (List.mem_append_right _ (List.mem_append_right _ (List.mem_append_right _ (List.mem_append_right _ (List.mem_append_right _ (List.mem_append_right _ (List.mem_append_right _ (List.mem_append_right _ (List.mem_append_right _ (List.mem_append_right _ (List.mem_append_right _ (List.mem_append_right _ (List.mem_append_right _ (List.mem_append_right _ (List.mem_append_right _ (List.mem_append_right _ (List.mem_append_right _ (List.mem_append_right _ (List.mem_append_right _ (List.mem_append_right _ (List.mem_append_right _ (List.mem_append_right _ (List.mem_append_right _ (List.mem_append_right _ (List.mem_append_right _ (List.mem_append_left _ h)))))))))))))))))))))))))))))))))))))
theorem aw_p29 : ∀ w ∈ wsL_law_r29, w ∈ wsL_law := fun _ h => List.mem_append_left _ (List.mem_append_left _ (List.mem_append_left _ (List.mem_append_left _ (List.mem_append_left _ (List.mem_append_left _ (List.mem_append_left _ (List.mem_append_left _ (List.mem_append_left _ (List.mem_append_left _ (List.mem_append_right _ (List.mem_append_right _ (List.mem_append_right _ (List.mem_append_right _ (List.mem_append_right _ (List.mem_append_right _ (List.mem_append_right _ (List.mem_append_right _ (List.mem_append_right _ (List.mem_append_right _ (List.mem_append_right _ (List.mem_append_right _ (List.mem_append_right _ (List.mem_append_right _ (List.mem_append_right _ (List.mem_append_right _ (List.mem_append_right _ (List.mem_append_right _ (List.mem_append_right _ (List.mem_append_right _ (List.mem_append_right _ (List.mem_append_right _ (List.mem_append_right _ (List.mem_append_right _ (List.mem_append_right _ (List.mem_append_right _ (List.mem_append_right _ (List.mem_append_right _ (List.mem_append_left _ h))))))))))))))))))))))))))))))))))))))
theorem aw_p30 : ∀ w ∈ wsL_law_r30, w ∈ wsL_law := fun _ h => List.mem_append_left _ (List.mem_append_left _ (List.mem_append_left _ (List.mem_append_left _ (List.mem_append_left _ (List.mem_append_left _ (List.mem_append_left _ (List.mem_append_left _ (List.mem_append_left _ (List.mem_append_left _ (List.mem_append_right _ (List.mem_append_right _ (List.mem_append_right _ (List.mem_append_right _ (List.mem_append_right _ (List.mem_append_right _ (List.mem_append_right _ (List.mem_append_right _ (List.mem_append_right _ (List.mem_append_right _ (List.mem_append_right _ (List.mem_append_right _ (List.mem_append_right _ (List.mem_append_right _ (List.mem_append_right _ (List.mem_append_right _ (List.mem_append_right _ (List.mem_append_right _ (List.mem_append_right _ (List.mem_append_right _ (List.mem_append_right _ (List.mem_append_right _ (List.mem_append_right _ (List.mem_append_right _ (List.mem_append_right _ (List.mem_append_right _ (List.mem_append_right _ (List.mem_append_right _ (List.mem_append_right _ (List.mem_append_left _ h)))))))))))))))))))))))))))))))))))))))
theorem aw_p31 : ∀ w ∈ wsL_law_r31, w ∈ wsL_law := fun _ h => List.mem_append_left _ (List.mem_append_left _ (List.mem_append_left _ (List.mem_append_left _ (List.mem_append_left _ (List.mem_append_left _ (List.mem_append_left _ (List.mem_append_left _ (List.mem_append_left _ (List.mem_append_left _ (List.mem_append_right _ (List.mem_append_right _ (List.mem_append_right _ (List.mem_append_right _ (List.mem_append_right _ (List.mem_append_right _ (List.mem_append_right _ (List.mem_append_right _ (List.mem_append_right _ (List.mem_append_right _ (List.mem_append_right _ (List.mem_append_right _ (List.mem_append_right _ (List.mem_append_right _ (List.mem_append_right _ (List.mem_append_right _ (List.mem_append_right _ (List.mem_append_right _ (List.mem_append_right _ (List.mem_append_right _ (List.mem_append_right _ (List.mem_append_right _ (List.mem_append_right _ (List.mem_append_right _ (List.mem_append_right _ (List.mem_append_right _ (List.mem_append_right _ (List.mem_append_right _ (List.mem_append_right _ (List.mem_append_right _ (List.mem_append_left _ h))))))))))))))))))))))))))))))))))))))))
theorem aw_p32 : ∀ w ∈ wsL_law_r32, w ∈ wsL_law := fun _ h => List.mem_append_left _ (List.mem_append_left _ (List.mem_append_left _ (List.mem_append_left _ (List.mem_append_left _ (List.mem_append_left _ (List.mem_append_left _ (List.mem_append_left _ (List.mem_append_left _ (List.mem_append_left _ (List.mem_append_right _ (List.mem_append_right _ (List.mem_append_right _ (List.mem_append_right _ (List.mem_append_right _ (List.mem_append_right _ (List.mem_append_right _ (List.mem_append_right _ (List.mem_append_right _ (List.mem_append_right _ (List.mem_append_right _ (List.mem_append_right _ (List.mem_append_right _ (List.mem_append_right _ (List.mem_append_right _ (List.mem_append_right _ (List.mem_append_right _ (List.mem_append_right _ (List.mem_append_right _ (List.mem_append_right _ (List.mem_append_right _ (List.mem_append_right _ (List.mem_append_right _ (List.mem_append_right _ (List.mem_append_right _ (List.mem_append_right _ (List.mem_append_right _ (List.mem_append_right _ (List.mem_append_right _ (List.mem_append_right _ (List.mem_append_right _ (h)))))))))))))))))))))))))))))))))))))))))
theorem mk_RL_7 : Cond.classLink RL 7 RX7 ∈ wsL_law := aw_p1 _ (List.mem_of_getElem? (i := 0) rfl)
theorem ma_RX7 : Cond.instantiable RX7 11 ∈ wsL_law := aw_p1 _ (List.mem_of_getElem? (i := 1) rfl)
theorem mn_RX7 : Cond.initialized RX7 ∈ wsL_law := aw_p1 _ (List.mem_of_getElem? (i := 2) rfl)
theorem mk_RL_10 : Cond.classLink RL 10 RX8 ∈ wsL_law := aw_p1 _ (List.mem_of_getElem? (i := 3) rfl)
theorem ma_RX8 : Cond.instantiable RX8 34 ∈ wsL_law := aw_p1 _ (List.mem_of_getElem? (i := 4) rfl)
theorem mn_RX8 : Cond.initialized RX8 ∈ wsL_law := aw_p1 _ (List.mem_of_getElem? (i := 5) rfl)
theorem ml_RL_9 : Cond.methodLink RL 9 yX7_init ∈ wsL_law := aw_p1 _ (List.mem_of_getElem? (i := 6) rfl)
theorem mi_yX7_init : Cond.instanceMethod yX7_init ∈ wsL_law := aw_p1 _ (List.mem_of_getElem? (i := 7) rfl)
theorem mc_yX7_init : Cond.code yX7_init cX7_init 1 none ∈ wsL_law := aw_p1 _ (List.mem_of_getElem? (i := 8) rfl)
theorem ml_RX7_1 : Cond.methodLink RX7 1 objectInit ∈ wsL_law := aw_p1 _ (List.mem_of_getElem? (i := 9) rfl)
theorem mi_objectInit : Cond.instanceMethod objectInit ∈ wsL_law := aw_p1 _ (List.mem_of_getElem? (i := 10) rfl)
theorem mc_objectInit : Cond.code objectInit ⟨#[0xb1]⟩ 1 none ∈ wsL_law := aw_p1 _ (List.mem_of_getElem? (i := 11) rfl)
theorem mk_RX7_7 : Cond.classLink RX7 7 RX4 ∈ wsL_law := aw_p1 _ (List.mem_of_getElem? (i := 12) rfl)
theorem ma_RX4 : Cond.instantiable RX4 2 ∈ wsL_law := aw_p1 _ (List.mem_of_getElem? (i := 13) rfl)
theorem mn_RX4 : Cond.initialized RX4 ∈ wsL_law := aw_p1 _ (List.mem_of_getElem? (i := 14) rfl)
theorem mf_RX7_10 : Cond.fieldLink RX7 10 "RiversQueue" "page" "LRiversQueue$Page;" ∈ wsL_law := aw_p1 _ (List.mem_of_getElem? (i := 15) rfl)
theorem mk_RX7_16 : Cond.classLink RX7 16 RX1 ∈ wsL_law := aw_p1 _ (List.mem_of_getElem? (i := 16) rfl)
theorem ma_RX1 : Cond.instantiable RX1 4 ∈ wsL_law := aw_p1 _ (List.mem_of_getElem? (i := 17) rfl)
theorem mn_RX1 : Cond.initialized RX1 ∈ wsL_law := aw_p1 _ (List.mem_of_getElem? (i := 18) rfl)
theorem mf_RX7_19 : Cond.fieldLink RX7 19 "RiversQueue" "coast" "LRiversQueue$Coast;" ∈ wsL_law := aw_p1 _ (List.mem_of_getElem? (i := 19) rfl)
theorem mk_RX7_23 : Cond.classLink RX7 23 RX5 ∈ wsL_law := aw_p1 _ (List.mem_of_getElem? (i := 20) rfl)
theorem ma_RX5 : Cond.instantiable RX5 6 ∈ wsL_law := aw_p1 _ (List.mem_of_getElem? (i := 21) rfl)
theorem mn_RX5 : Cond.initialized RX5 ∈ wsL_law := aw_p1 _ (List.mem_of_getElem? (i := 22) rfl)
theorem mf_RX7_28 : Cond.fieldLink RX7 28 "RiversQueue" "now" "LRiversQueue$Shore;" ∈ wsL_law := aw_p1 _ (List.mem_of_getElem? (i := 23) rfl)
theorem mk_RX7_32 : Cond.classLink RX7 32 RX6 ∈ wsL_law := aw_p2 _ (List.mem_of_getElem? (i := 0) rfl)
theorem ma_RX6 : Cond.instantiable RX6 4 ∈ wsL_law := aw_p2 _ (List.mem_of_getElem? (i := 1) rfl)
theorem mn_RX6 : Cond.initialized RX6 ∈ wsL_law := aw_p2 _ (List.mem_of_getElem? (i := 2) rfl)
theorem mf_RX7_35 : Cond.fieldLink RX7 35 "RiversQueue" "seen" "LRiversQueue$Sightings;" ∈ wsL_law := aw_p2 _ (List.mem_of_getElem? (i := 3) rfl)
theorem mf_RX7_39 : Cond.fieldLink RX7 39 "RiversQueue" "keptShore" "LRiversQueue$Shore;" ∈ wsL_law := aw_p2 _ (List.mem_of_getElem? (i := 4) rfl)
theorem mf_RX7_42 : Cond.fieldLink RX7 42 "RiversQueue" "keptSeen" "LRiversQueue$Sightings;" ∈ wsL_law := aw_p2 _ (List.mem_of_getElem? (i := 5) rfl)
theorem mk_RX7_45 : Cond.classLink RX7 45 RX3 ∈ wsL_law := aw_p2 _ (List.mem_of_getElem? (i := 6) rfl)
theorem ma_RX3 : Cond.instantiable RX3 7 ∈ wsL_law := aw_p2 _ (List.mem_of_getElem? (i := 7) rfl)
theorem mn_RX3 : Cond.initialized RX3 ∈ wsL_law := aw_p2 _ (List.mem_of_getElem? (i := 8) rfl)
theorem mf_RX7_50 : Cond.fieldLink RX7 50 "RiversQueue" "forecast" "LRiversQueue$Forecast;" ∈ wsL_law := aw_p2 _ (List.mem_of_getElem? (i := 9) rfl)
theorem mk_RX7_54 : Cond.classLink RX7 54 RX0 ∈ wsL_law := aw_p2 _ (List.mem_of_getElem? (i := 10) rfl)
theorem ma_RX0 : Cond.instantiable RX0 6 ∈ wsL_law := aw_p2 _ (List.mem_of_getElem? (i := 11) rfl)
theorem mn_RX0 : Cond.initialized RX0 ∈ wsL_law := aw_p2 _ (List.mem_of_getElem? (i := 12) rfl)
theorem mf_RX7_59 : Cond.fieldLink RX7 59 "RiversQueue" "bestOrder" "LRiversQueue$BestOrder;" ∈ wsL_law := aw_p2 _ (List.mem_of_getElem? (i := 13) rfl)
theorem mi_yX4_init : Cond.instanceMethod yX4_init ∈ wsL_law := aw_p2 _ (List.mem_of_getElem? (i := 14) rfl)
theorem mc_yX4_init : Cond.code yX4_init cX4_init 1 none ∈ wsL_law := aw_p2 _ (List.mem_of_getElem? (i := 15) rfl)
theorem ml_RX4_3 : Cond.methodLink RX4 3 objectInit ∈ wsL_law := aw_p2 _ (List.mem_of_getElem? (i := 16) rfl)
theorem my_int : Cond.arrayClass .int ∈ wsL_law := aw_p2 _ (List.mem_of_getElem? (i := 17) rfl)
theorem mf_RX4_9 : Cond.fieldLink RX4 9 "RiversQueue$Page" "letters" "[I" ∈ wsL_law := aw_p2 _ (List.mem_of_getElem? (i := 18) rfl)
theorem mi_yX1_init : Cond.instanceMethod yX1_init ∈ wsL_law := aw_p2 _ (List.mem_of_getElem? (i := 19) rfl)
theorem mc_yX1_init : Cond.code yX1_init cX1_init 1 none ∈ wsL_law := aw_p2 _ (List.mem_of_getElem? (i := 20) rfl)
theorem ml_RX1_3 : Cond.methodLink RX1 3 objectInit ∈ wsL_law := aw_p2 _ (List.mem_of_getElem? (i := 21) rfl)
theorem mf_RX1_9 : Cond.fieldLink RX1 9 "RiversQueue$Coast" "kinds" "[I" ∈ wsL_law := aw_p2 _ (List.mem_of_getElem? (i := 22) rfl)
theorem mf_RX1_15 : Cond.fieldLink RX1 15 "RiversQueue$Coast" "flows" "[I" ∈ wsL_law := aw_p2 _ (List.mem_of_getElem? (i := 23) rfl)
theorem ml_RX7_25 : Cond.methodLink RX7 25 yX5_init ∈ wsL_law := aw_p3 _ (List.mem_of_getElem? (i := 0) rfl)
theorem mi_yX5_init : Cond.instanceMethod yX5_init ∈ wsL_law := aw_p3 _ (List.mem_of_getElem? (i := 1) rfl)
theorem mc_yX5_init : Cond.code yX5_init cX5_init 2 none ∈ wsL_law := aw_p3 _ (List.mem_of_getElem? (i := 2) rfl)
theorem ml_RX5_3 : Cond.methodLink RX5 3 objectInit ∈ wsL_law := aw_p3 _ (List.mem_of_getElem? (i := 3) rfl)
theorem mf_RX5_9 : Cond.fieldLink RX5 9 "RiversQueue$Shore" "water" "[I" ∈ wsL_law := aw_p3 _ (List.mem_of_getElem? (i := 4) rfl)
theorem mf_RX5_15 : Cond.fieldLink RX5 15 "RiversQueue$Shore" "took" "[I" ∈ wsL_law := aw_p3 _ (List.mem_of_getElem? (i := 5) rfl)
theorem mf_RX5_18 : Cond.fieldLink RX5 18 "RiversQueue$Shore" "row" "[I" ∈ wsL_law := aw_p3 _ (List.mem_of_getElem? (i := 6) rfl)
theorem mf_RX5_21 : Cond.fieldLink RX5 21 "RiversQueue$Shore" "takenOf" "I" ∈ wsL_law := aw_p3 _ (List.mem_of_getElem? (i := 7) rfl)
theorem mf_RX5_25 : Cond.fieldLink RX5 25 "RiversQueue$Shore" "coast" "LRiversQueue$Coast;" ∈ wsL_law := aw_p3 _ (List.mem_of_getElem? (i := 8) rfl)
theorem mi_yX6_init : Cond.instanceMethod yX6_init ∈ wsL_law := aw_p3 _ (List.mem_of_getElem? (i := 9) rfl)
theorem mc_yX6_init : Cond.code yX6_init cX6_init 1 none ∈ wsL_law := aw_p3 _ (List.mem_of_getElem? (i := 10) rfl)
theorem ml_RX6_3 : Cond.methodLink RX6 3 objectInit ∈ wsL_law := aw_p3 _ (List.mem_of_getElem? (i := 11) rfl)
theorem mf_RX6_9 : Cond.fieldLink RX6 9 "RiversQueue$Sightings" "hours" "[I" ∈ wsL_law := aw_p3 _ (List.mem_of_getElem? (i := 12) rfl)
theorem mf_RX6_15 : Cond.fieldLink RX6 15 "RiversQueue$Sightings" "rivers" "[I" ∈ wsL_law := aw_p3 _ (List.mem_of_getElem? (i := 13) rfl)
theorem my_boolean : Cond.arrayClass .boolean ∈ wsL_law := aw_p3 _ (List.mem_of_getElem? (i := 14) rfl)
theorem mf_RX6_18 : Cond.fieldLink RX6 18 "RiversQueue$Sightings" "taken" "[Z" ∈ wsL_law := aw_p3 _ (List.mem_of_getElem? (i := 15) rfl)
theorem ml_RX7_47 : Cond.methodLink RX7 47 yX3_init ∈ wsL_law := aw_p3 _ (List.mem_of_getElem? (i := 16) rfl)
theorem mi_yX3_init : Cond.instanceMethod yX3_init ∈ wsL_law := aw_p3 _ (List.mem_of_getElem? (i := 17) rfl)
theorem mc_yX3_init : Cond.code yX3_init cX3_init 4 none ∈ wsL_law := aw_p3 _ (List.mem_of_getElem? (i := 18) rfl)
theorem ml_RX3_3 : Cond.methodLink RX3 3 objectInit ∈ wsL_law := aw_p3 _ (List.mem_of_getElem? (i := 19) rfl)
theorem mk_RX3_9 : Cond.classLink RX3 9 RX2 ∈ wsL_law := aw_p3 _ (List.mem_of_getElem? (i := 20) rfl)
theorem ma_RX2 : Cond.instantiable RX2 1 ∈ wsL_law := aw_p3 _ (List.mem_of_getElem? (i := 21) rfl)
theorem mn_RX2 : Cond.initialized RX2 ∈ wsL_law := aw_p3 _ (List.mem_of_getElem? (i := 22) rfl)
theorem mf_RX3_12 : Cond.fieldLink RX3 12 "RiversQueue$Forecast" "draws" "LRiversQueue$Draws;" ∈ wsL_law := aw_p3 _ (List.mem_of_getElem? (i := 23) rfl)
theorem mf_RX3_18 : Cond.fieldLink RX3 18 "RiversQueue$Forecast" "takenOf" "[I" ∈ wsL_law := aw_p4 _ (List.mem_of_getElem? (i := 0) rfl)
theorem mf_RX3_22 : Cond.fieldLink RX3 22 "RiversQueue$Forecast" "takes" "[I" ∈ wsL_law := aw_p4 _ (List.mem_of_getElem? (i := 1) rfl)
theorem mf_RX3_25 : Cond.fieldLink RX3 25 "RiversQueue$Forecast" "coast" "LRiversQueue$Coast;" ∈ wsL_law := aw_p4 _ (List.mem_of_getElem? (i := 2) rfl)
theorem mf_RX3_29 : Cond.fieldLink RX3 29 "RiversQueue$Forecast" "now" "LRiversQueue$Shore;" ∈ wsL_law := aw_p4 _ (List.mem_of_getElem? (i := 3) rfl)
theorem mf_RX3_33 : Cond.fieldLink RX3 33 "RiversQueue$Forecast" "seen" "LRiversQueue$Sightings;" ∈ wsL_law := aw_p4 _ (List.mem_of_getElem? (i := 4) rfl)
theorem mk_RX3_37 : Cond.classLink RX3 37 RX5 ∈ wsL_law := aw_p4 _ (List.mem_of_getElem? (i := 5) rfl)
theorem mf_RX3_42 : Cond.fieldLink RX3 42 "RiversQueue$Forecast" "trial" "LRiversQueue$Shore;" ∈ wsL_law := aw_p4 _ (List.mem_of_getElem? (i := 6) rfl)
theorem mi_yX2_init : Cond.instanceMethod yX2_init ∈ wsL_law := aw_p4 _ (List.mem_of_getElem? (i := 7) rfl)
theorem mc_yX2_init : Cond.code yX2_init cX2_init 1 none ∈ wsL_law := aw_p4 _ (List.mem_of_getElem? (i := 8) rfl)
theorem ml_RX2_1 : Cond.methodLink RX2 1 objectInit ∈ wsL_law := aw_p4 _ (List.mem_of_getElem? (i := 9) rfl)
theorem ml_RX3_39 : Cond.methodLink RX3 39 yX5_init ∈ wsL_law := aw_p4 _ (List.mem_of_getElem? (i := 10) rfl)
theorem ml_RX7_56 : Cond.methodLink RX7 56 yX0_init ∈ wsL_law := aw_p4 _ (List.mem_of_getElem? (i := 11) rfl)
theorem mi_yX0_init : Cond.instanceMethod yX0_init ∈ wsL_law := aw_p4 _ (List.mem_of_getElem? (i := 12) rfl)
theorem mc_yX0_init : Cond.code yX0_init cX0_init 3 none ∈ wsL_law := aw_p4 _ (List.mem_of_getElem? (i := 13) rfl)
theorem ml_RX0_3 : Cond.methodLink RX0 3 objectInit ∈ wsL_law := aw_p4 _ (List.mem_of_getElem? (i := 14) rfl)
theorem mf_RX0_9 : Cond.fieldLink RX0 9 "RiversQueue$BestOrder" "order" "[I" ∈ wsL_law := aw_p4 _ (List.mem_of_getElem? (i := 15) rfl)
theorem mf_RX0_15 : Cond.fieldLink RX0 15 "RiversQueue$BestOrder" "found" "[I" ∈ wsL_law := aw_p4 _ (List.mem_of_getElem? (i := 16) rfl)
theorem mf_RX0_18 : Cond.fieldLink RX0 18 "RiversQueue$BestOrder" "coast" "LRiversQueue$Coast;" ∈ wsL_law := aw_p4 _ (List.mem_of_getElem? (i := 17) rfl)
theorem mf_RX0_22 : Cond.fieldLink RX0 22 "RiversQueue$BestOrder" "now" "LRiversQueue$Shore;" ∈ wsL_law := aw_p4 _ (List.mem_of_getElem? (i := 18) rfl)
theorem mk_RX0_26 : Cond.classLink RX0 26 RX5 ∈ wsL_law := aw_p4 _ (List.mem_of_getElem? (i := 19) rfl)
theorem mf_RX0_31 : Cond.fieldLink RX0 31 "RiversQueue$BestOrder" "trial" "LRiversQueue$Shore;" ∈ wsL_law := aw_p4 _ (List.mem_of_getElem? (i := 20) rfl)
theorem ml_RX0_28 : Cond.methodLink RX0 28 yX5_init ∈ wsL_law := aw_p4 _ (List.mem_of_getElem? (i := 21) rfl)
theorem ml_RL_12 : Cond.methodLink RL 12 yX8_init ∈ wsL_law := aw_p4 _ (List.mem_of_getElem? (i := 22) rfl)
theorem mi_yX8_init : Cond.instanceMethod yX8_init ∈ wsL_law := aw_p4 _ (List.mem_of_getElem? (i := 23) rfl)
theorem mc_yX8_init : Cond.code yX8_init cX8_init 1 none ∈ wsL_law := aw_p5 _ (List.mem_of_getElem? (i := 0) rfl)
theorem ml_RX8_1 : Cond.methodLink RX8 1 objectInit ∈ wsL_law := aw_p5 _ (List.mem_of_getElem? (i := 1) rfl)
theorem mf_RX8_7 : Cond.fieldLink RX8 7 "RiversQueueModel" "page" "[I" ∈ wsL_law := aw_p5 _ (List.mem_of_getElem? (i := 2) rfl)
theorem mf_RX8_13 : Cond.fieldLink RX8 13 "RiversQueueModel" "read" "[I" ∈ wsL_law := aw_p5 _ (List.mem_of_getElem? (i := 3) rfl)
theorem mf_RX8_16 : Cond.fieldLink RX8 16 "RiversQueueModel" "kinds" "[I" ∈ wsL_law := aw_p5 _ (List.mem_of_getElem? (i := 4) rfl)
theorem mf_RX8_19 : Cond.fieldLink RX8 19 "RiversQueueModel" "flows" "[I" ∈ wsL_law := aw_p5 _ (List.mem_of_getElem? (i := 5) rfl)
theorem mf_RX8_22 : Cond.fieldLink RX8 22 "RiversQueueModel" "waters" "[I" ∈ wsL_law := aw_p5 _ (List.mem_of_getElem? (i := 6) rfl)
theorem mf_RX8_25 : Cond.fieldLink RX8 25 "RiversQueueModel" "stands" "[I" ∈ wsL_law := aw_p5 _ (List.mem_of_getElem? (i := 7) rfl)
theorem mf_RX8_28 : Cond.fieldLink RX8 28 "RiversQueueModel" "taken" "[I" ∈ wsL_law := aw_p5 _ (List.mem_of_getElem? (i := 8) rfl)
theorem mf_RX8_31 : Cond.fieldLink RX8 31 "RiversQueueModel" "savedWaters" "[I" ∈ wsL_law := aw_p5 _ (List.mem_of_getElem? (i := 9) rfl)
theorem mf_RX8_34 : Cond.fieldLink RX8 34 "RiversQueueModel" "savedStands" "[I" ∈ wsL_law := aw_p5 _ (List.mem_of_getElem? (i := 10) rfl)
theorem mf_RX8_37 : Cond.fieldLink RX8 37 "RiversQueueModel" "bestStands" "[I" ∈ wsL_law := aw_p5 _ (List.mem_of_getElem? (i := 11) rfl)
theorem mf_RX8_40 : Cond.fieldLink RX8 40 "RiversQueueModel" "sights" "[I" ∈ wsL_law := aw_p5 _ (List.mem_of_getElem? (i := 12) rfl)
theorem mf_RX8_43 : Cond.fieldLink RX8 43 "RiversQueueModel" "tookThen" "[I" ∈ wsL_law := aw_p5 _ (List.mem_of_getElem? (i := 13) rfl)
theorem mf_RX8_46 : Cond.fieldLink RX8 46 "RiversQueueModel" "yes" "[I" ∈ wsL_law := aw_p5 _ (List.mem_of_getElem? (i := 14) rfl)
theorem mf_RX8_49 : Cond.fieldLink RX8 49 "RiversQueueModel" "keptWaters" "[I" ∈ wsL_law := aw_p5 _ (List.mem_of_getElem? (i := 15) rfl)
theorem mf_RX8_52 : Cond.fieldLink RX8 52 "RiversQueueModel" "keptStands" "[I" ∈ wsL_law := aw_p5 _ (List.mem_of_getElem? (i := 16) rfl)
theorem mf_RX8_55 : Cond.fieldLink RX8 55 "RiversQueueModel" "keptTaken" "[I" ∈ wsL_law := aw_p5 _ (List.mem_of_getElem? (i := 17) rfl)
theorem mf_RX8_58 : Cond.fieldLink RX8 58 "RiversQueueModel" "keptSights" "[I" ∈ wsL_law := aw_p5 _ (List.mem_of_getElem? (i := 18) rfl)
theorem mf_RX8_61 : Cond.fieldLink RX8 61 "RiversQueueModel" "keptCoast" "I" ∈ wsL_law := aw_p5 _ (List.mem_of_getElem? (i := 19) rfl)
theorem ml_RL_13 : Cond.methodLink RL 13 yX7_letter ∈ wsL_law := aw_p5 _ (List.mem_of_getElem? (i := 20) rfl)
theorem mi_yX7_letter : Cond.instanceMethod yX7_letter ∈ wsL_law := aw_p5 _ (List.mem_of_getElem? (i := 21) rfl)
theorem ms_yX7_letter : Cond.selects RX7 yX7_letter yX7_letter ∈ wsL_law := aw_p5 _ (List.mem_of_getElem? (i := 22) rfl)
theorem mc_yX7_letter : Cond.code yX7_letter cX7_letter 2 (some .int) ∈ wsL_law := aw_p5 _ (List.mem_of_getElem? (i := 23) rfl)
theorem ml_RX7_63 : Cond.methodLink RX7 63 yX7_within ∈ wsL_law := aw_p6 _ (List.mem_of_getElem? (i := 0) rfl)
theorem mt_yX7_within : Cond.static yX7_within ∈ wsL_law := aw_p6 _ (List.mem_of_getElem? (i := 1) rfl)
theorem mc_yX7_within : Cond.code yX7_within cX7_within 3 (some .boolean) ∈ wsL_law := aw_p6 _ (List.mem_of_getElem? (i := 2) rfl)
theorem ml_RX7_67 : Cond.methodLink RX7 67 yX4_isFull ∈ wsL_law := aw_p6 _ (List.mem_of_getElem? (i := 3) rfl)
theorem mi_yX4_isFull : Cond.instanceMethod yX4_isFull ∈ wsL_law := aw_p6 _ (List.mem_of_getElem? (i := 4) rfl)
theorem ms_yX4_isFull : Cond.selects RX4 yX4_isFull yX4_isFull ∈ wsL_law := aw_p6 _ (List.mem_of_getElem? (i := 5) rfl)
theorem mc_yX4_isFull : Cond.code yX4_isFull cX4_isFull 1 (some .boolean) ∈ wsL_law := aw_p6 _ (List.mem_of_getElem? (i := 6) rfl)
theorem mf_RX4_15 : Cond.fieldLink RX4 15 "RiversQueue$Page" "size" "I" ∈ wsL_law := aw_p6 _ (List.mem_of_getElem? (i := 7) rfl)
theorem ml_RX7_71 : Cond.methodLink RX7 71 yX4_write ∈ wsL_law := aw_p6 _ (List.mem_of_getElem? (i := 8) rfl)
theorem mi_yX4_write : Cond.instanceMethod yX4_write ∈ wsL_law := aw_p6 _ (List.mem_of_getElem? (i := 9) rfl)
theorem ms_yX4_write : Cond.selects RX4 yX4_write yX4_write ∈ wsL_law := aw_p6 _ (List.mem_of_getElem? (i := 10) rfl)
theorem mc_yX4_write : Cond.code yX4_write cX4_write 2 (some .int) ∈ wsL_law := aw_p6 _ (List.mem_of_getElem? (i := 11) rfl)
theorem ml_RX4_19 : Cond.methodLink RX4 19 yX4_isFull ∈ wsL_law := aw_p6 _ (List.mem_of_getElem? (i := 12) rfl)
theorem ml_RL_17 : Cond.methodLink RL 17 yX8_letter ∈ wsL_law := aw_p6 _ (List.mem_of_getElem? (i := 13) rfl)
theorem mi_yX8_letter : Cond.instanceMethod yX8_letter ∈ wsL_law := aw_p6 _ (List.mem_of_getElem? (i := 14) rfl)
theorem ms_yX8_letter : Cond.selects RX8 yX8_letter yX8_letter ∈ wsL_law := aw_p6 _ (List.mem_of_getElem? (i := 15) rfl)
theorem mc_yX8_letter : Cond.code yX8_letter cX8_letter 2 (some .int) ∈ wsL_law := aw_p6 _ (List.mem_of_getElem? (i := 16) rfl)
theorem mq_RX8_65 : Cond.constantLong RX8 65 (126) ∈ wsL_law := aw_p6 _ (List.mem_of_getElem? (i := 17) rfl)
theorem mf_RX8_71 : Cond.fieldLink RX8 71 "RiversQueueModel" "pageMany" "I" ∈ wsL_law := aw_p6 _ (List.mem_of_getElem? (i := 18) rfl)
theorem ml_RX8_67 : Cond.methodLink RX8 67 yX8_in ∈ wsL_law := aw_p6 _ (List.mem_of_getElem? (i := 19) rfl)
theorem mt_yX8_in : Cond.static yX8_in ∈ wsL_law := aw_p6 _ (List.mem_of_getElem? (i := 20) rfl)
theorem mc_yX8_in : Cond.code yX8_in cX8_in 6 (some .boolean) ∈ wsL_law := aw_p6 _ (List.mem_of_getElem? (i := 21) rfl)
theorem ml_RL_18 : Cond.methodLink RL 18 yX7_blank ∈ wsL_law := aw_p6 _ (List.mem_of_getElem? (i := 22) rfl)
theorem mi_yX7_blank : Cond.instanceMethod yX7_blank ∈ wsL_law := aw_p6 _ (List.mem_of_getElem? (i := 23) rfl)
theorem ms_yX7_blank : Cond.selects RX7 yX7_blank yX7_blank ∈ wsL_law := aw_p7 _ (List.mem_of_getElem? (i := 0) rfl)
theorem mc_yX7_blank : Cond.code yX7_blank cX7_blank 1 (some .int) ∈ wsL_law := aw_p7 _ (List.mem_of_getElem? (i := 1) rfl)
theorem ml_RX7_75 : Cond.methodLink RX7 75 yX4_clear ∈ wsL_law := aw_p7 _ (List.mem_of_getElem? (i := 2) rfl)
theorem mi_yX4_clear : Cond.instanceMethod yX4_clear ∈ wsL_law := aw_p7 _ (List.mem_of_getElem? (i := 3) rfl)
theorem ms_yX4_clear : Cond.selects RX4 yX4_clear yX4_clear ∈ wsL_law := aw_p7 _ (List.mem_of_getElem? (i := 4) rfl)
theorem mc_yX4_clear : Cond.code yX4_clear cX4_clear 2 (some .int) ∈ wsL_law := aw_p7 _ (List.mem_of_getElem? (i := 5) rfl)
theorem ml_RL_22 : Cond.methodLink RL 22 yX8_blank ∈ wsL_law := aw_p7 _ (List.mem_of_getElem? (i := 6) rfl)
theorem mi_yX8_blank : Cond.instanceMethod yX8_blank ∈ wsL_law := aw_p7 _ (List.mem_of_getElem? (i := 7) rfl)
theorem ms_yX8_blank : Cond.selects RX8 yX8_blank yX8_blank ∈ wsL_law := aw_p7 _ (List.mem_of_getElem? (i := 8) rfl)
theorem mc_yX8_blank : Cond.code yX8_blank cX8_blank 2 (some .int) ∈ wsL_law := aw_p7 _ (List.mem_of_getElem? (i := 9) rfl)
theorem ml_RL_23 : Cond.methodLink RL 23 yX7_fault ∈ wsL_law := aw_p7 _ (List.mem_of_getElem? (i := 10) rfl)
theorem mi_yX7_fault : Cond.instanceMethod yX7_fault ∈ wsL_law := aw_p7 _ (List.mem_of_getElem? (i := 11) rfl)
theorem ms_yX7_fault : Cond.selects RX7 yX7_fault yX7_fault ∈ wsL_law := aw_p7 _ (List.mem_of_getElem? (i := 12) rfl)
theorem mc_yX7_fault : Cond.code yX7_fault cX7_fault 1 (some .int) ∈ wsL_law := aw_p7 _ (List.mem_of_getElem? (i := 13) rfl)
theorem ml_RX7_79 : Cond.methodLink RX7 79 yX4_firstFault ∈ wsL_law := aw_p7 _ (List.mem_of_getElem? (i := 14) rfl)
theorem mi_yX4_firstFault : Cond.instanceMethod yX4_firstFault ∈ wsL_law := aw_p7 _ (List.mem_of_getElem? (i := 15) rfl)
theorem ms_yX4_firstFault : Cond.selects RX4 yX4_firstFault yX4_firstFault ∈ wsL_law := aw_p7 _ (List.mem_of_getElem? (i := 16) rfl)
theorem mc_yX4_firstFault : Cond.code yX4_firstFault cX4_firstFault 2 (some .int) ∈ wsL_law := aw_p7 _ (List.mem_of_getElem? (i := 17) rfl)
theorem ml_RX4_23 : Cond.methodLink RX4 23 yX4_fits ∈ wsL_law := aw_p7 _ (List.mem_of_getElem? (i := 18) rfl)
theorem mi_yX4_fits : Cond.instanceMethod yX4_fits ∈ wsL_law := aw_p7 _ (List.mem_of_getElem? (i := 19) rfl)
theorem ms_yX4_fits : Cond.selects RX4 yX4_fits yX4_fits ∈ wsL_law := aw_p7 _ (List.mem_of_getElem? (i := 20) rfl)
theorem mc_yX4_fits : Cond.code yX4_fits cX4_fits 4 (some .boolean) ∈ wsL_law := aw_p7 _ (List.mem_of_getElem? (i := 21) rfl)
theorem ml_RX4_36 : Cond.methodLink RX4 36 yX4_codeAt ∈ wsL_law := aw_p7 _ (List.mem_of_getElem? (i := 22) rfl)
theorem mi_yX4_codeAt : Cond.instanceMethod yX4_codeAt ∈ wsL_law := aw_p7 _ (List.mem_of_getElem? (i := 23) rfl)
theorem ms_yX4_codeAt : Cond.selects RX4 yX4_codeAt yX4_codeAt ∈ wsL_law := aw_p8 _ (List.mem_of_getElem? (i := 0) rfl)
theorem mc_yX4_codeAt : Cond.code yX4_codeAt cX4_codeAt 2 (some .int) ∈ wsL_law := aw_p8 _ (List.mem_of_getElem? (i := 1) rfl)
theorem ml_RX4_31 : Cond.methodLink RX4 31 yX4_standsBehindEnd ∈ wsL_law := aw_p8 _ (List.mem_of_getElem? (i := 2) rfl)
theorem mi_yX4_standsBehindEnd : Cond.instanceMethod yX4_standsBehindEnd ∈ wsL_law := aw_p8 _ (List.mem_of_getElem? (i := 3) rfl)
theorem ms_yX4_standsBehindEnd : Cond.selects RX4 yX4_standsBehindEnd yX4_standsBehindEnd ∈ wsL_law := aw_p8 _ (List.mem_of_getElem? (i := 4) rfl)
theorem mc_yX4_standsBehindEnd : Cond.code yX4_standsBehindEnd cX4_standsBehindEnd 2 (some .boolean) ∈ wsL_law := aw_p8 _ (List.mem_of_getElem? (i := 5) rfl)
theorem ml_RX4_40 : Cond.methodLink RX4 40 yJ0_indexOf_0f7a4 ∈ wsL_law := aw_p8 _ (List.mem_of_getElem? (i := 6) rfl)
theorem mi_yJ0_indexOf_0f7a4 : Cond.instanceMethod yJ0_indexOf_0f7a4 ∈ wsL_law := aw_p8 _ (List.mem_of_getElem? (i := 7) rfl)
theorem ms_yJ0_indexOf_0f7a4 : Cond.selects RJ0 yJ0_indexOf_0f7a4 yJ0_indexOf_0f7a4 ∈ wsL_law := aw_p8 _ (List.mem_of_getElem? (i := 8) rfl)
theorem mn_RJ0 : Cond.initialized RJ0 ∈ wsL_law := aw_p8 _ (List.mem_of_getElem? (i := 9) rfl)
theorem mc_yJ0_indexOf_0f7a4 : Cond.code yJ0_indexOf_0f7a4 cJ0_indexOf_0f7a4 2 (some .int) ∈ wsL_law := aw_p8 _ (List.mem_of_getElem? (i := 10) rfl)
theorem ml_RJ0_633 : Cond.methodLink RJ0 633 yJ0_indexOf_7cf53 ∈ wsL_law := aw_p8 _ (List.mem_of_getElem? (i := 11) rfl)
theorem mi_yJ0_indexOf_7cf53 : Cond.instanceMethod yJ0_indexOf_7cf53 ∈ wsL_law := aw_p8 _ (List.mem_of_getElem? (i := 12) rfl)
theorem ms_yJ0_indexOf_7cf53 : Cond.selects RJ0 yJ0_indexOf_7cf53 yJ0_indexOf_7cf53 ∈ wsL_law := aw_p8 _ (List.mem_of_getElem? (i := 13) rfl)
theorem mc_yJ0_indexOf_7cf53 : Cond.code yJ0_indexOf_7cf53 cJ0_indexOf_7cf53 3 (some .int) ∈ wsL_law := aw_p8 _ (List.mem_of_getElem? (i := 14) rfl)
theorem mf_RJ0_9 : Cond.fieldLink RJ0 9 "java/lang/String" "value" "[B" ∈ wsL_law := aw_p8 _ (List.mem_of_getElem? (i := 15) rfl)
theorem ml_RJ0_492 : Cond.methodLink RJ0 492 yJ0_isLatin1_aae02 ∈ wsL_law := aw_p8 _ (List.mem_of_getElem? (i := 16) rfl)
theorem mi_yJ0_isLatin1_aae02 : Cond.instanceMethod yJ0_isLatin1_aae02 ∈ wsL_law := aw_p8 _ (List.mem_of_getElem? (i := 17) rfl)
theorem ms_yJ0_isLatin1_aae02 : Cond.selects RJ0 yJ0_isLatin1_aae02 yJ0_isLatin1_aae02 ∈ wsL_law := aw_p8 _ (List.mem_of_getElem? (i := 18) rfl)
theorem mc_yJ0_isLatin1_aae02 : Cond.code yJ0_isLatin1_aae02 cJ0_isLatin1_aae02 1 (some .boolean) ∈ wsL_law := aw_p8 _ (List.mem_of_getElem? (i := 19) rfl)
theorem mf_RJ0_38 : Cond.fieldLink RJ0 38 "java/lang/String" "COMPACT_STRINGS" "Z" ∈ wsL_law := aw_p8 _ (List.mem_of_getElem? (i := 20) rfl)
theorem mf_RJ0_15 : Cond.fieldLink RJ0 15 "java/lang/String" "coder" "B" ∈ wsL_law := aw_p8 _ (List.mem_of_getElem? (i := 21) rfl)
theorem ml_RJ0_505 : Cond.methodLink RJ0 505 yJ0_length_8abf5 ∈ wsL_law := aw_p8 _ (List.mem_of_getElem? (i := 22) rfl)
theorem mi_yJ0_length_8abf5 : Cond.instanceMethod yJ0_length_8abf5 ∈ wsL_law := aw_p8 _ (List.mem_of_getElem? (i := 23) rfl)
theorem ms_yJ0_length_8abf5 : Cond.selects RJ0 yJ0_length_8abf5 yJ0_length_8abf5 ∈ wsL_law := aw_p9 _ (List.mem_of_getElem? (i := 0) rfl)
theorem mc_yJ0_length_8abf5 : Cond.code yJ0_length_8abf5 cJ0_length_8abf5 1 (some .int) ∈ wsL_law := aw_p9 _ (List.mem_of_getElem? (i := 1) rfl)
theorem ml_RJ0_335 : Cond.methodLink RJ0 335 yJ0_coder_7d493 ∈ wsL_law := aw_p9 _ (List.mem_of_getElem? (i := 2) rfl)
theorem mi_yJ0_coder_7d493 : Cond.instanceMethod yJ0_coder_7d493 ∈ wsL_law := aw_p9 _ (List.mem_of_getElem? (i := 3) rfl)
theorem ms_yJ0_coder_7d493 : Cond.selects RJ0 yJ0_coder_7d493 yJ0_coder_7d493 ∈ wsL_law := aw_p9 _ (List.mem_of_getElem? (i := 4) rfl)
theorem mc_yJ0_coder_7d493 : Cond.code yJ0_coder_7d493 cJ0_coder_7d493 1 (some .byte) ∈ wsL_law := aw_p9 _ (List.mem_of_getElem? (i := 5) rfl)
theorem ml_RJ0_637 : Cond.methodLink RJ0 637 yJ1_indexOf_4cfef ∈ wsL_law := aw_p9 _ (List.mem_of_getElem? (i := 6) rfl)
theorem mt_yJ1_indexOf_4cfef : Cond.static yJ1_indexOf_4cfef ∈ wsL_law := aw_p9 _ (List.mem_of_getElem? (i := 7) rfl)
theorem mn_RJ1 : Cond.initialized RJ1 ∈ wsL_law := aw_p9 _ (List.mem_of_getElem? (i := 8) rfl)
theorem mc_yJ1_indexOf_4cfef : Cond.code yJ1_indexOf_4cfef cJ1_indexOf_4cfef 4 (some .int) ∈ wsL_law := aw_p9 _ (List.mem_of_getElem? (i := 9) rfl)
theorem ml_RJ1_92 : Cond.methodLink RJ1 92 Lib.Math.max.name ∈ wsL_law := aw_p9 _ (List.mem_of_getElem? (i := 10) rfl)
theorem mt_Lib_Math_max_name : Cond.static Lib.Math.max.name ∈ wsL_law := aw_p9 _ (List.mem_of_getElem? (i := 11) rfl)
theorem mn__java_lang_Math_ : Cond.initialized "java/lang/Math" ∈ wsL_law := aw_p9 _ (List.mem_of_getElem? (i := 12) rfl)
theorem mc_Lib_Math_max_name : Cond.code Lib.Math.max.name Lib.Math.max.code 2 (some .int) ∈ wsL_law := aw_p9 _ (List.mem_of_getElem? (i := 13) rfl)
theorem ml_RJ1_38 : Cond.methodLink RJ1 38 Lib.Math.min.name ∈ wsL_law := aw_p9 _ (List.mem_of_getElem? (i := 14) rfl)
theorem mt_Lib_Math_min_name : Cond.static Lib.Math.min.name ∈ wsL_law := aw_p9 _ (List.mem_of_getElem? (i := 15) rfl)
theorem mc_Lib_Math_min_name : Cond.code Lib.Math.min.name Lib.Math.min.code 2 (some .int) ∈ wsL_law := aw_p9 _ (List.mem_of_getElem? (i := 16) rfl)
theorem ml_RJ1_88 : Cond.methodLink RJ1 88 yJ1_canEncode_9a6ad ∈ wsL_law := aw_p9 _ (List.mem_of_getElem? (i := 17) rfl)
theorem mt_yJ1_canEncode_9a6ad : Cond.static yJ1_canEncode_9a6ad ∈ wsL_law := aw_p9 _ (List.mem_of_getElem? (i := 18) rfl)
theorem mc_yJ1_canEncode_9a6ad : Cond.code yJ1_canEncode_9a6ad cJ1_canEncode_9a6ad 1 (some .boolean) ∈ wsL_law := aw_p9 _ (List.mem_of_getElem? (i := 19) rfl)
theorem ml_RJ1_95 : Cond.methodLink RJ1 95 yJ1_indexOfChar_4cfef ∈ wsL_law := aw_p9 _ (List.mem_of_getElem? (i := 20) rfl)
theorem mt_yJ1_indexOfChar_4cfef : Cond.static yJ1_indexOfChar_4cfef ∈ wsL_law := aw_p9 _ (List.mem_of_getElem? (i := 21) rfl)
theorem mc_yJ1_indexOfChar_4cfef : Cond.code yJ1_indexOfChar_4cfef cJ1_indexOfChar_4cfef 6 (some .int) ∈ wsL_law := aw_p9 _ (List.mem_of_getElem? (i := 22) rfl)
theorem ml_RJ0_640 : Cond.methodLink RJ0 640 yJ2_indexOf_4cfef ∈ wsL_law := aw_p9 _ (List.mem_of_getElem? (i := 23) rfl)
theorem mt_yJ2_indexOf_4cfef : Cond.static yJ2_indexOf_4cfef ∈ wsL_law := aw_p10 _ (List.mem_of_getElem? (i := 0) rfl)
theorem mn_RJ2 : Cond.initialized RJ2 ∈ wsL_law := aw_p10 _ (List.mem_of_getElem? (i := 1) rfl)
theorem mc_yJ2_indexOf_4cfef : Cond.code yJ2_indexOf_4cfef cJ2_indexOf_4cfef 4 (some .int) ∈ wsL_law := aw_p10 _ (List.mem_of_getElem? (i := 2) rfl)
theorem ml_RJ2_224 : Cond.methodLink RJ2 224 Lib.Math.max.name ∈ wsL_law := aw_p10 _ (List.mem_of_getElem? (i := 3) rfl)
theorem ml_RJ2_183 : Cond.methodLink RJ2 183 Lib.Math.min.name ∈ wsL_law := aw_p10 _ (List.mem_of_getElem? (i := 4) rfl)
theorem mo_RJ2_227 : Cond.constant RJ2 227 (65536) ∈ wsL_law := aw_p10 _ (List.mem_of_getElem? (i := 5) rfl)
theorem ml_RJ2_228 : Cond.methodLink RJ2 228 yJ2_indexOfChar_4cfef ∈ wsL_law := aw_p10 _ (List.mem_of_getElem? (i := 6) rfl)
theorem mt_yJ2_indexOfChar_4cfef : Cond.static yJ2_indexOfChar_4cfef ∈ wsL_law := aw_p10 _ (List.mem_of_getElem? (i := 7) rfl)
theorem mc_yJ2_indexOfChar_4cfef : Cond.code yJ2_indexOfChar_4cfef cJ2_indexOfChar_4cfef 4 (some .int) ∈ wsL_law := aw_p10 _ (List.mem_of_getElem? (i := 8) rfl)
theorem ml_RJ2_96 : Cond.methodLink RJ2 96 yJ2_checkBoundsBeginEnd_d044e ∈ wsL_law := aw_p10 _ (List.mem_of_getElem? (i := 9) rfl)
theorem mt_yJ2_checkBoundsBeginEnd_d044e : Cond.static yJ2_checkBoundsBeginEnd_d044e ∈ wsL_law := aw_p10 _ (List.mem_of_getElem? (i := 10) rfl)
theorem mc_yJ2_checkBoundsBeginEnd_d044e : Cond.code yJ2_checkBoundsBeginEnd_d044e cJ2_checkBoundsBeginEnd_d044e 3 none ∈ wsL_law := aw_p10 _ (List.mem_of_getElem? (i := 11) rfl)
theorem ml_RJ2_48 : Cond.methodLink RJ2 48 yJ2_length_9d52b ∈ wsL_law := aw_p10 _ (List.mem_of_getElem? (i := 12) rfl)
theorem mt_yJ2_length_9d52b : Cond.static yJ2_length_9d52b ∈ wsL_law := aw_p10 _ (List.mem_of_getElem? (i := 13) rfl)
theorem mc_yJ2_length_9d52b : Cond.code yJ2_length_9d52b cJ2_length_9d52b 1 (some .int) ∈ wsL_law := aw_p10 _ (List.mem_of_getElem? (i := 14) rfl)
theorem ml_RJ2_241 : Cond.methodLink RJ2 241 yJ0_checkBoundsBeginEnd_23922 ∈ wsL_law := aw_p10 _ (List.mem_of_getElem? (i := 15) rfl)
theorem mt_yJ0_checkBoundsBeginEnd_23922 : Cond.static yJ0_checkBoundsBeginEnd_23922 ∈ wsL_law := aw_p10 _ (List.mem_of_getElem? (i := 16) rfl)
theorem mc_yJ0_checkBoundsBeginEnd_23922 : Cond.code yJ0_checkBoundsBeginEnd_23922 cJ0_checkBoundsBeginEnd_23922 3 none ∈ wsL_law := aw_p10 _ (List.mem_of_getElem? (i := 17) rfl)
theorem mf_RJ0_1053 : Cond.fieldLink RJ0 1053 "jdk/internal/util/Preconditions" "SIOOBE_FORMATTER" "Ljava/util/function/BiFunction;" ∈ wsL_law := aw_p10 _ (List.mem_of_getElem? (i := 18) rfl)
theorem ml_RJ0_1062 : Cond.methodLink RJ0 1062 yJ3_checkFromToIndex_8c36e ∈ wsL_law := aw_p10 _ (List.mem_of_getElem? (i := 19) rfl)
theorem mt_yJ3_checkFromToIndex_8c36e : Cond.static yJ3_checkFromToIndex_8c36e ∈ wsL_law := aw_p10 _ (List.mem_of_getElem? (i := 20) rfl)
theorem mn_RJ3 : Cond.initialized RJ3 ∈ wsL_law := aw_p10 _ (List.mem_of_getElem? (i := 21) rfl)
theorem mc_yJ3_checkFromToIndex_8c36e : Cond.code yJ3_checkFromToIndex_8c36e cJ3_checkFromToIndex_8c36e 4 (some .int) ∈ wsL_law := aw_p10 _ (List.mem_of_getElem? (i := 22) rfl)
theorem ml_RJ2_244 : Cond.methodLink RJ2 244 yJ2_indexOfCharUnsafe_4cfef ∈ wsL_law := aw_p10 _ (List.mem_of_getElem? (i := 23) rfl)
theorem mt_yJ2_indexOfCharUnsafe_4cfef : Cond.static yJ2_indexOfCharUnsafe_4cfef ∈ wsL_law := aw_p11 _ (List.mem_of_getElem? (i := 0) rfl)
theorem mc_yJ2_indexOfCharUnsafe_4cfef : Cond.code yJ2_indexOfCharUnsafe_4cfef cJ2_indexOfCharUnsafe_4cfef 5 (some .int) ∈ wsL_law := aw_p11 _ (List.mem_of_getElem? (i := 1) rfl)
theorem ml_RJ2_71 : Cond.methodLink RJ2 71 yJ2_getChar_3b067 ∈ wsL_law := aw_p11 _ (List.mem_of_getElem? (i := 2) rfl)
theorem mt_yJ2_getChar_3b067 : Cond.static yJ2_getChar_3b067 ∈ wsL_law := aw_p11 _ (List.mem_of_getElem? (i := 3) rfl)
theorem mc_yJ2_getChar_3b067 : Cond.code yJ2_getChar_3b067 cJ2_getChar_3b067 2 (some .char) ∈ wsL_law := aw_p11 _ (List.mem_of_getElem? (i := 4) rfl)
theorem mf_RJ2_44 : Cond.fieldLink RJ2 44 "java/lang/StringUTF16" "$assertionsDisabled" "Z" ∈ wsL_law := aw_p11 _ (List.mem_of_getElem? (i := 5) rfl)
theorem mf_RJ2_59 : Cond.fieldLink RJ2 59 "java/lang/StringUTF16" "HI_BYTE_SHIFT" "I" ∈ wsL_law := aw_p11 _ (List.mem_of_getElem? (i := 6) rfl)
theorem mf_RJ2_63 : Cond.fieldLink RJ2 63 "java/lang/StringUTF16" "LO_BYTE_SHIFT" "I" ∈ wsL_law := aw_p11 _ (List.mem_of_getElem? (i := 7) rfl)
theorem ml_RJ2_232 : Cond.methodLink RJ2 232 yJ2_indexOfSupplementary_4cfef ∈ wsL_law := aw_p11 _ (List.mem_of_getElem? (i := 8) rfl)
theorem mt_yJ2_indexOfSupplementary_4cfef : Cond.static yJ2_indexOfSupplementary_4cfef ∈ wsL_law := aw_p11 _ (List.mem_of_getElem? (i := 9) rfl)
theorem mc_yJ2_indexOfSupplementary_4cfef : Cond.code yJ2_indexOfSupplementary_4cfef cJ2_indexOfSupplementary_4cfef 7 (some .int) ∈ wsL_law := aw_p11 _ (List.mem_of_getElem? (i := 10) rfl)
theorem ml_RJ2_164 : Cond.methodLink RJ2 164 yJ11_isValidCodePoint_9a6ad ∈ wsL_law := aw_p11 _ (List.mem_of_getElem? (i := 11) rfl)
theorem mt_yJ11_isValidCodePoint_9a6ad : Cond.static yJ11_isValidCodePoint_9a6ad ∈ wsL_law := aw_p11 _ (List.mem_of_getElem? (i := 12) rfl)
theorem mn_RJ11 : Cond.initialized RJ11 ∈ wsL_law := aw_p11 _ (List.mem_of_getElem? (i := 13) rfl)
theorem mc_yJ11_isValidCodePoint_9a6ad : Cond.code yJ11_isValidCodePoint_9a6ad cJ11_isValidCodePoint_9a6ad 2 (some .boolean) ∈ wsL_law := aw_p11 _ (List.mem_of_getElem? (i := 14) rfl)
theorem ml_RJ2_157 : Cond.methodLink RJ2 157 yJ11_highSurrogate_5068e ∈ wsL_law := aw_p11 _ (List.mem_of_getElem? (i := 15) rfl)
theorem mt_yJ11_highSurrogate_5068e : Cond.static yJ11_highSurrogate_5068e ∈ wsL_law := aw_p11 _ (List.mem_of_getElem? (i := 16) rfl)
theorem mc_yJ11_highSurrogate_5068e : Cond.code yJ11_highSurrogate_5068e cJ11_highSurrogate_5068e 1 (some .char) ∈ wsL_law := aw_p11 _ (List.mem_of_getElem? (i := 17) rfl)
theorem mo_RJ11_110 : Cond.constant RJ11 110 (55232) ∈ wsL_law := aw_p11 _ (List.mem_of_getElem? (i := 18) rfl)
theorem ml_RJ2_161 : Cond.methodLink RJ2 161 yJ11_lowSurrogate_5068e ∈ wsL_law := aw_p11 _ (List.mem_of_getElem? (i := 19) rfl)
theorem mt_yJ11_lowSurrogate_5068e : Cond.static yJ11_lowSurrogate_5068e ∈ wsL_law := aw_p11 _ (List.mem_of_getElem? (i := 20) rfl)
theorem mc_yJ11_lowSurrogate_5068e : Cond.code yJ11_lowSurrogate_5068e cJ11_lowSurrogate_5068e 1 (some .char) ∈ wsL_law := aw_p11 _ (List.mem_of_getElem? (i := 21) rfl)
theorem mo_RJ11_76 : Cond.constant RJ11 76 (56320) ∈ wsL_law := aw_p11 _ (List.mem_of_getElem? (i := 22) rfl)
theorem ml_RX4_49 : Cond.methodLink RX4 49 yX4_fitsBehindRiver ∈ wsL_law := aw_p11 _ (List.mem_of_getElem? (i := 23) rfl)
theorem mt_yX4_fitsBehindRiver : Cond.static yX4_fitsBehindRiver ∈ wsL_law := aw_p12 _ (List.mem_of_getElem? (i := 0) rfl)
theorem mc_yX4_fitsBehindRiver : Cond.code yX4_fitsBehindRiver cX4_fitsBehindRiver 2 (some .boolean) ∈ wsL_law := aw_p12 _ (List.mem_of_getElem? (i := 1) rfl)
theorem ml_RL_26 : Cond.methodLink RL 26 yX8_fault ∈ wsL_law := aw_p12 _ (List.mem_of_getElem? (i := 2) rfl)
theorem mi_yX8_fault : Cond.instanceMethod yX8_fault ∈ wsL_law := aw_p12 _ (List.mem_of_getElem? (i := 3) rfl)
theorem ms_yX8_fault : Cond.selects RX8 yX8_fault yX8_fault ∈ wsL_law := aw_p12 _ (List.mem_of_getElem? (i := 4) rfl)
theorem mc_yX8_fault : Cond.code yX8_fault cX8_fault 1 (some .int) ∈ wsL_law := aw_p12 _ (List.mem_of_getElem? (i := 5) rfl)
theorem ml_RX8_95 : Cond.methodLink RX8 95 yX8_faultOf ∈ wsL_law := aw_p12 _ (List.mem_of_getElem? (i := 6) rfl)
theorem mi_yX8_faultOf : Cond.instanceMethod yX8_faultOf ∈ wsL_law := aw_p12 _ (List.mem_of_getElem? (i := 7) rfl)
theorem ms_yX8_faultOf : Cond.selects RX8 yX8_faultOf yX8_faultOf ∈ wsL_law := aw_p12 _ (List.mem_of_getElem? (i := 8) rfl)
theorem mc_yX8_faultOf : Cond.code yX8_faultOf cX8_faultOf 2 (some .int) ∈ wsL_law := aw_p12 _ (List.mem_of_getElem? (i := 9) rfl)
theorem mf_RX8_77 : Cond.fieldLink RX8 77 "RiversQueueModel" "readMany" "I" ∈ wsL_law := aw_p12 _ (List.mem_of_getElem? (i := 10) rfl)
theorem mf_RX8_74 : Cond.fieldLink RX8 74 "RiversQueueModel" "state" "I" ∈ wsL_law := aw_p12 _ (List.mem_of_getElem? (i := 11) rfl)
theorem ml_RX8_91 : Cond.methodLink RX8 91 yX8_go ∈ wsL_law := aw_p12 _ (List.mem_of_getElem? (i := 12) rfl)
theorem mi_yX8_go : Cond.instanceMethod yX8_go ∈ wsL_law := aw_p12 _ (List.mem_of_getElem? (i := 13) rfl)
theorem ms_yX8_go : Cond.selects RX8 yX8_go yX8_go ∈ wsL_law := aw_p12 _ (List.mem_of_getElem? (i := 14) rfl)
theorem mc_yX8_go : Cond.code yX8_go cX8_go 4 (some .boolean) ∈ wsL_law := aw_p12 _ (List.mem_of_getElem? (i := 15) rfl)
theorem mq_RX8_84 : Cond.constantLong RX8 84 (9) ∈ wsL_law := aw_p12 _ (List.mem_of_getElem? (i := 16) rfl)
theorem mq_RX8_86 : Cond.constantLong RX8 86 (5) ∈ wsL_law := aw_p12 _ (List.mem_of_getElem? (i := 17) rfl)
theorem mf_RX8_88 : Cond.fieldLink RX8 88 "RiversQueueModel" "readBar" "I" ∈ wsL_law := aw_p12 _ (List.mem_of_getElem? (i := 18) rfl)
theorem ml_RX8_80 : Cond.methodLink RX8 80 yX8_kindBy ∈ wsL_law := aw_p12 _ (List.mem_of_getElem? (i := 19) rfl)
theorem mt_yX8_kindBy : Cond.static yX8_kindBy ∈ wsL_law := aw_p12 _ (List.mem_of_getElem? (i := 20) rfl)
theorem mc_yX8_kindBy : Cond.code yX8_kindBy cX8_kindBy 1 (some .int) ∈ wsL_law := aw_p12 _ (List.mem_of_getElem? (i := 21) rfl)
theorem ml_RL_27 : Cond.methodLink RL 27 yX7_coast ∈ wsL_law := aw_p12 _ (List.mem_of_getElem? (i := 22) rfl)
theorem mi_yX7_coast : Cond.instanceMethod yX7_coast ∈ wsL_law := aw_p12 _ (List.mem_of_getElem? (i := 23) rfl)
theorem ms_yX7_coast : Cond.selects RX7 yX7_coast yX7_coast ∈ wsL_law := aw_p13 _ (List.mem_of_getElem? (i := 0) rfl)
theorem mc_yX7_coast : Cond.code yX7_coast cX7_coast 1 (some .int) ∈ wsL_law := aw_p13 _ (List.mem_of_getElem? (i := 1) rfl)
theorem mf_RX7_93 : Cond.fieldLink RX7 93 "RiversQueue" "imageKept" "Z" ∈ wsL_law := aw_p13 _ (List.mem_of_getElem? (i := 2) rfl)
theorem mf_RX7_97 : Cond.fieldLink RX7 97 "RiversQueue" "coastsRead" "I" ∈ wsL_law := aw_p13 _ (List.mem_of_getElem? (i := 3) rfl)
theorem ml_RX7_82 : Cond.methodLink RX7 82 yX4_holdsCoast ∈ wsL_law := aw_p13 _ (List.mem_of_getElem? (i := 4) rfl)
theorem mi_yX4_holdsCoast : Cond.instanceMethod yX4_holdsCoast ∈ wsL_law := aw_p13 _ (List.mem_of_getElem? (i := 5) rfl)
theorem ms_yX4_holdsCoast : Cond.selects RX4 yX4_holdsCoast yX4_holdsCoast ∈ wsL_law := aw_p13 _ (List.mem_of_getElem? (i := 6) rfl)
theorem mc_yX4_holdsCoast : Cond.code yX4_holdsCoast cX4_holdsCoast 1 (some .boolean) ∈ wsL_law := aw_p13 _ (List.mem_of_getElem? (i := 7) rfl)
theorem ml_RX4_27 : Cond.methodLink RX4 27 yX4_firstFault ∈ wsL_law := aw_p13 _ (List.mem_of_getElem? (i := 8) rfl)
theorem ml_RX7_85 : Cond.methodLink RX7 85 yX1_readFrom ∈ wsL_law := aw_p13 _ (List.mem_of_getElem? (i := 9) rfl)
theorem mi_yX1_readFrom : Cond.instanceMethod yX1_readFrom ∈ wsL_law := aw_p13 _ (List.mem_of_getElem? (i := 10) rfl)
theorem ms_yX1_readFrom : Cond.selects RX1 yX1_readFrom yX1_readFrom ∈ wsL_law := aw_p13 _ (List.mem_of_getElem? (i := 11) rfl)
theorem mc_yX1_readFrom : Cond.code yX1_readFrom cX1_readFrom 3 none ∈ wsL_law := aw_p13 _ (List.mem_of_getElem? (i := 12) rfl)
theorem ml_RX1_24 : Cond.methodLink RX1 24 Lib.Math.min.name ∈ wsL_law := aw_p13 _ (List.mem_of_getElem? (i := 13) rfl)
theorem mf_RX1_30 : Cond.fieldLink RX1 30 "RiversQueue$Coast" "rivers" "I" ∈ wsL_law := aw_p13 _ (List.mem_of_getElem? (i := 14) rfl)
theorem mf_RX1_36 : Cond.fieldLink RX1 36 "RiversQueue$Coast" "bar" "I" ∈ wsL_law := aw_p13 _ (List.mem_of_getElem? (i := 15) rfl)
theorem ml_RX1_18 : Cond.methodLink RX1 18 yX4_rivers ∈ wsL_law := aw_p13 _ (List.mem_of_getElem? (i := 16) rfl)
theorem mi_yX4_rivers : Cond.instanceMethod yX4_rivers ∈ wsL_law := aw_p13 _ (List.mem_of_getElem? (i := 17) rfl)
theorem ms_yX4_rivers : Cond.selects RX4 yX4_rivers yX4_rivers ∈ wsL_law := aw_p13 _ (List.mem_of_getElem? (i := 18) rfl)
theorem mc_yX4_rivers : Cond.code yX4_rivers cX4_rivers 1 (some .int) ∈ wsL_law := aw_p13 _ (List.mem_of_getElem? (i := 19) rfl)
theorem ml_RX1_33 : Cond.methodLink RX1 33 yX4_lastDigit ∈ wsL_law := aw_p13 _ (List.mem_of_getElem? (i := 20) rfl)
theorem mi_yX4_lastDigit : Cond.instanceMethod yX4_lastDigit ∈ wsL_law := aw_p13 _ (List.mem_of_getElem? (i := 21) rfl)
theorem ms_yX4_lastDigit : Cond.selects RX4 yX4_lastDigit yX4_lastDigit ∈ wsL_law := aw_p13 _ (List.mem_of_getElem? (i := 22) rfl)
theorem mc_yX4_lastDigit : Cond.code yX4_lastDigit cX4_lastDigit 1 (some .int) ∈ wsL_law := aw_p13 _ (List.mem_of_getElem? (i := 23) rfl)
theorem ml_RX1_39 : Cond.methodLink RX1 39 yX4_kindAt ∈ wsL_law := aw_p14 _ (List.mem_of_getElem? (i := 0) rfl)
theorem mi_yX4_kindAt : Cond.instanceMethod yX4_kindAt ∈ wsL_law := aw_p14 _ (List.mem_of_getElem? (i := 1) rfl)
theorem ms_yX4_kindAt : Cond.selects RX4 yX4_kindAt yX4_kindAt ∈ wsL_law := aw_p14 _ (List.mem_of_getElem? (i := 2) rfl)
theorem mc_yX4_kindAt : Cond.code yX4_kindAt cX4_kindAt 2 (some .int) ∈ wsL_law := aw_p14 _ (List.mem_of_getElem? (i := 3) rfl)
theorem ml_RX1_43 : Cond.methodLink RX1 43 yX4_flowAt ∈ wsL_law := aw_p14 _ (List.mem_of_getElem? (i := 4) rfl)
theorem mi_yX4_flowAt : Cond.instanceMethod yX4_flowAt ∈ wsL_law := aw_p14 _ (List.mem_of_getElem? (i := 5) rfl)
theorem ms_yX4_flowAt : Cond.selects RX4 yX4_flowAt yX4_flowAt ∈ wsL_law := aw_p14 _ (List.mem_of_getElem? (i := 6) rfl)
theorem mc_yX4_flowAt : Cond.code yX4_flowAt cX4_flowAt 2 (some .int) ∈ wsL_law := aw_p14 _ (List.mem_of_getElem? (i := 7) rfl)
theorem ml_RX7_89 : Cond.methodLink RX7 89 yX5_beginAs ∈ wsL_law := aw_p14 _ (List.mem_of_getElem? (i := 8) rfl)
theorem mi_yX5_beginAs : Cond.instanceMethod yX5_beginAs ∈ wsL_law := aw_p14 _ (List.mem_of_getElem? (i := 9) rfl)
theorem ms_yX5_beginAs : Cond.selects RX5 yX5_beginAs yX5_beginAs ∈ wsL_law := aw_p14 _ (List.mem_of_getElem? (i := 10) rfl)
theorem mc_yX5_beginAs : Cond.code yX5_beginAs cX5_beginAs 3 none ∈ wsL_law := aw_p14 _ (List.mem_of_getElem? (i := 11) rfl)
theorem mf_RX5_40 : Cond.fieldLink RX5 40 "RiversQueue$Shore" "hours" "I" ∈ wsL_law := aw_p14 _ (List.mem_of_getElem? (i := 12) rfl)
theorem ml_RX5_34 : Cond.methodLink RX5 34 yX4_waterAt ∈ wsL_law := aw_p14 _ (List.mem_of_getElem? (i := 13) rfl)
theorem mi_yX4_waterAt : Cond.instanceMethod yX4_waterAt ∈ wsL_law := aw_p14 _ (List.mem_of_getElem? (i := 14) rfl)
theorem ms_yX4_waterAt : Cond.selects RX4 yX4_waterAt yX4_waterAt ∈ wsL_law := aw_p14 _ (List.mem_of_getElem? (i := 15) rfl)
theorem mc_yX4_waterAt : Cond.code yX4_waterAt cX4_waterAt 2 (some .int) ∈ wsL_law := aw_p14 _ (List.mem_of_getElem? (i := 16) rfl)
theorem ml_RX7_92 : Cond.methodLink RX7 92 yX6_clear ∈ wsL_law := aw_p14 _ (List.mem_of_getElem? (i := 17) rfl)
theorem mi_yX6_clear : Cond.instanceMethod yX6_clear ∈ wsL_law := aw_p14 _ (List.mem_of_getElem? (i := 18) rfl)
theorem ms_yX6_clear : Cond.selects RX6 yX6_clear yX6_clear ∈ wsL_law := aw_p14 _ (List.mem_of_getElem? (i := 19) rfl)
theorem mc_yX6_clear : Cond.code yX6_clear cX6_clear 2 (some .int) ∈ wsL_law := aw_p14 _ (List.mem_of_getElem? (i := 20) rfl)
theorem mf_RX6_22 : Cond.fieldLink RX6 22 "RiversQueue$Sightings" "size" "I" ∈ wsL_law := aw_p14 _ (List.mem_of_getElem? (i := 21) rfl)
theorem ml_RL_30 : Cond.methodLink RL 30 yX8_coast ∈ wsL_law := aw_p14 _ (List.mem_of_getElem? (i := 22) rfl)
theorem mi_yX8_coast : Cond.instanceMethod yX8_coast ∈ wsL_law := aw_p14 _ (List.mem_of_getElem? (i := 23) rfl)
theorem ms_yX8_coast : Cond.selects RX8 yX8_coast yX8_coast ∈ wsL_law := aw_p15 _ (List.mem_of_getElem? (i := 0) rfl)
theorem mc_yX8_coast : Cond.code yX8_coast cX8_coast 2 (some .int) ∈ wsL_law := aw_p15 _ (List.mem_of_getElem? (i := 1) rfl)
theorem mf_RX8_99 : Cond.fieldLink RX8 99 "RiversQueueModel" "many" "I" ∈ wsL_law := aw_p15 _ (List.mem_of_getElem? (i := 2) rfl)
theorem mf_RX8_102 : Cond.fieldLink RX8 102 "RiversQueueModel" "bar" "I" ∈ wsL_law := aw_p15 _ (List.mem_of_getElem? (i := 3) rfl)
theorem mf_RX8_105 : Cond.fieldLink RX8 105 "RiversQueueModel" "hoursNow" "I" ∈ wsL_law := aw_p15 _ (List.mem_of_getElem? (i := 4) rfl)
theorem mf_RX8_108 : Cond.fieldLink RX8 108 "RiversQueueModel" "seenMany" "I" ∈ wsL_law := aw_p15 _ (List.mem_of_getElem? (i := 5) rfl)
theorem mf_RX8_111 : Cond.fieldLink RX8 111 "RiversQueueModel" "coastsRead" "I" ∈ wsL_law := aw_p15 _ (List.mem_of_getElem? (i := 6) rfl)
theorem ml_RL_31 : Cond.methodLink RL 31 yX7_river ∈ wsL_law := aw_p15 _ (List.mem_of_getElem? (i := 7) rfl)
theorem mi_yX7_river : Cond.instanceMethod yX7_river ∈ wsL_law := aw_p15 _ (List.mem_of_getElem? (i := 8) rfl)
theorem ms_yX7_river : Cond.selects RX7 yX7_river yX7_river ∈ wsL_law := aw_p15 _ (List.mem_of_getElem? (i := 9) rfl)
theorem mc_yX7_river : Cond.code yX7_river cX7_river 3 (some .int) ∈ wsL_law := aw_p15 _ (List.mem_of_getElem? (i := 10) rfl)
theorem ml_RX7_104 : Cond.methodLink RX7 104 yX1_hasRiver ∈ wsL_law := aw_p15 _ (List.mem_of_getElem? (i := 11) rfl)
theorem mi_yX1_hasRiver : Cond.instanceMethod yX1_hasRiver ∈ wsL_law := aw_p15 _ (List.mem_of_getElem? (i := 12) rfl)
theorem ms_yX1_hasRiver : Cond.selects RX1 yX1_hasRiver yX1_hasRiver ∈ wsL_law := aw_p15 _ (List.mem_of_getElem? (i := 13) rfl)
theorem mc_yX1_hasRiver : Cond.code yX1_hasRiver cX1_hasRiver 2 (some .boolean) ∈ wsL_law := aw_p15 _ (List.mem_of_getElem? (i := 14) rfl)
theorem ml_RX7_118 : Cond.methodLink RX7 118 yX5_placeOf ∈ wsL_law := aw_p15 _ (List.mem_of_getElem? (i := 15) rfl)
theorem mi_yX5_placeOf : Cond.instanceMethod yX5_placeOf ∈ wsL_law := aw_p15 _ (List.mem_of_getElem? (i := 16) rfl)
theorem ms_yX5_placeOf : Cond.selects RX5 yX5_placeOf yX5_placeOf ∈ wsL_law := aw_p15 _ (List.mem_of_getElem? (i := 17) rfl)
theorem mc_yX5_placeOf : Cond.code yX5_placeOf cX5_placeOf 3 (some .int) ∈ wsL_law := aw_p15 _ (List.mem_of_getElem? (i := 18) rfl)
theorem ml_RX7_124 : Cond.methodLink RX7 124 yX3_waitsOf ∈ wsL_law := aw_p15 _ (List.mem_of_getElem? (i := 19) rfl)
theorem mi_yX3_waitsOf : Cond.instanceMethod yX3_waitsOf ∈ wsL_law := aw_p15 _ (List.mem_of_getElem? (i := 20) rfl)
theorem ms_yX3_waitsOf : Cond.selects RX3 yX3_waitsOf yX3_waitsOf ∈ wsL_law := aw_p15 _ (List.mem_of_getElem? (i := 21) rfl)
theorem mc_yX3_waitsOf : Cond.code yX3_waitsOf cX3_waitsOf 3 (some .int) ∈ wsL_law := aw_p15 _ (List.mem_of_getElem? (i := 22) rfl)
theorem ml_RX3_45 : Cond.methodLink RX3 45 yX5_copyFrom ∈ wsL_law := aw_p15 _ (List.mem_of_getElem? (i := 23) rfl)
theorem mi_yX5_copyFrom : Cond.instanceMethod yX5_copyFrom ∈ wsL_law := aw_p16 _ (List.mem_of_getElem? (i := 0) rfl)
theorem ms_yX5_copyFrom : Cond.selects RX5 yX5_copyFrom yX5_copyFrom ∈ wsL_law := aw_p16 _ (List.mem_of_getElem? (i := 1) rfl)
theorem mc_yX5_copyFrom : Cond.code yX5_copyFrom cX5_copyFrom 2 none ∈ wsL_law := aw_p16 _ (List.mem_of_getElem? (i := 2) rfl)
theorem ml_RX5_43 : Cond.methodLink RX5 43 arraycopyName ∈ wsL_law := aw_p16 _ (List.mem_of_getElem? (i := 3) rfl)
theorem mv_arraycopyName : Cond.native arraycopyName ∈ wsL_law := aw_p16 _ (List.mem_of_getElem? (i := 4) rfl)
theorem mt_arraycopyName : Cond.static arraycopyName ∈ wsL_law := aw_p16 _ (List.mem_of_getElem? (i := 5) rfl)
theorem mn__java_lang_System_ : Cond.initialized "java/lang/System" ∈ wsL_law := aw_p16 _ (List.mem_of_getElem? (i := 6) rfl)
theorem ml_RX3_49 : Cond.methodLink RX3 49 yX5_passHour ∈ wsL_law := aw_p16 _ (List.mem_of_getElem? (i := 7) rfl)
theorem mi_yX5_passHour : Cond.instanceMethod yX5_passHour ∈ wsL_law := aw_p16 _ (List.mem_of_getElem? (i := 8) rfl)
theorem ms_yX5_passHour : Cond.selects RX5 yX5_passHour yX5_passHour ∈ wsL_law := aw_p16 _ (List.mem_of_getElem? (i := 9) rfl)
theorem mc_yX5_passHour : Cond.code yX5_passHour cX5_passHour 2 (some .int) ∈ wsL_law := aw_p16 _ (List.mem_of_getElem? (i := 10) rfl)
theorem ml_RX5_56 : Cond.methodLink RX5 56 yX5_addWater ∈ wsL_law := aw_p16 _ (List.mem_of_getElem? (i := 11) rfl)
theorem mi_yX5_addWater : Cond.instanceMethod yX5_addWater ∈ wsL_law := aw_p16 _ (List.mem_of_getElem? (i := 12) rfl)
theorem ms_yX5_addWater : Cond.selects RX5 yX5_addWater yX5_addWater ∈ wsL_law := aw_p16 _ (List.mem_of_getElem? (i := 13) rfl)
theorem mc_yX5_addWater : Cond.code yX5_addWater cX5_addWater 3 (some .int) ∈ wsL_law := aw_p16 _ (List.mem_of_getElem? (i := 14) rfl)
theorem ml_RX5_67 : Cond.methodLink RX5 67 Lib.Math.min.name ∈ wsL_law := aw_p16 _ (List.mem_of_getElem? (i := 15) rfl)
theorem ml_RX5_60 : Cond.methodLink RX5 60 yX5_pushAll ∈ wsL_law := aw_p16 _ (List.mem_of_getElem? (i := 16) rfl)
theorem mi_yX5_pushAll : Cond.instanceMethod yX5_pushAll ∈ wsL_law := aw_p16 _ (List.mem_of_getElem? (i := 17) rfl)
theorem ms_yX5_pushAll : Cond.selects RX5 yX5_pushAll yX5_pushAll ∈ wsL_law := aw_p16 _ (List.mem_of_getElem? (i := 18) rfl)
theorem mc_yX5_pushAll : Cond.code yX5_pushAll cX5_pushAll 4 none ∈ wsL_law := aw_p16 _ (List.mem_of_getElem? (i := 19) rfl)
theorem ml_RX5_79 : Cond.methodLink RX5 79 yX5_pushes ∈ wsL_law := aw_p16 _ (List.mem_of_getElem? (i := 20) rfl)
theorem mi_yX5_pushes : Cond.instanceMethod yX5_pushes ∈ wsL_law := aw_p16 _ (List.mem_of_getElem? (i := 21) rfl)
theorem ms_yX5_pushes : Cond.selects RX5 yX5_pushes yX5_pushes ∈ wsL_law := aw_p16 _ (List.mem_of_getElem? (i := 22) rfl)
theorem mc_yX5_pushes : Cond.code yX5_pushes cX5_pushes 4 (some .boolean) ∈ wsL_law := aw_p16 _ (List.mem_of_getElem? (i := 23) rfl)
theorem ml_RX5_63 : Cond.methodLink RX5 63 yX5_feedSea ∈ wsL_law := aw_p17 _ (List.mem_of_getElem? (i := 0) rfl)
theorem mi_yX5_feedSea : Cond.instanceMethod yX5_feedSea ∈ wsL_law := aw_p17 _ (List.mem_of_getElem? (i := 1) rfl)
theorem ms_yX5_feedSea : Cond.selects RX5 yX5_feedSea yX5_feedSea ∈ wsL_law := aw_p17 _ (List.mem_of_getElem? (i := 2) rfl)
theorem mc_yX5_feedSea : Cond.code yX5_feedSea cX5_feedSea 3 (some .int) ∈ wsL_law := aw_p17 _ (List.mem_of_getElem? (i := 3) rfl)
theorem ml_RX5_75 : Cond.methodLink RX5 75 yX5_sendBehindAll ∈ wsL_law := aw_p17 _ (List.mem_of_getElem? (i := 4) rfl)
theorem mi_yX5_sendBehindAll : Cond.instanceMethod yX5_sendBehindAll ∈ wsL_law := aw_p17 _ (List.mem_of_getElem? (i := 5) rfl)
theorem ms_yX5_sendBehindAll : Cond.selects RX5 yX5_sendBehindAll yX5_sendBehindAll ∈ wsL_law := aw_p17 _ (List.mem_of_getElem? (i := 6) rfl)
theorem mc_yX5_sendBehindAll : Cond.code yX5_sendBehindAll cX5_sendBehindAll 5 none ∈ wsL_law := aw_p17 _ (List.mem_of_getElem? (i := 7) rfl)
theorem ml_RX5_89 : Cond.methodLink RX5 89 yX1_hasRiver ∈ wsL_law := aw_p17 _ (List.mem_of_getElem? (i := 8) rfl)
theorem ml_RX7_127 : Cond.methodLink RX7 127 yX3_possibleWaters ∈ wsL_law := aw_p17 _ (List.mem_of_getElem? (i := 9) rfl)
theorem mi_yX3_possibleWaters : Cond.instanceMethod yX3_possibleWaters ∈ wsL_law := aw_p17 _ (List.mem_of_getElem? (i := 10) rfl)
theorem ms_yX3_possibleWaters : Cond.selects RX3 yX3_possibleWaters yX3_possibleWaters ∈ wsL_law := aw_p17 _ (List.mem_of_getElem? (i := 11) rfl)
theorem mc_yX3_possibleWaters : Cond.code yX3_possibleWaters cX3_possibleWaters 4 (some .int) ∈ wsL_law := aw_p17 _ (List.mem_of_getElem? (i := 12) rfl)
theorem ml_RX3_59 : Cond.methodLink RX3 59 yX3_isPossible ∈ wsL_law := aw_p17 _ (List.mem_of_getElem? (i := 13) rfl)
theorem mi_yX3_isPossible : Cond.instanceMethod yX3_isPossible ∈ wsL_law := aw_p17 _ (List.mem_of_getElem? (i := 14) rfl)
theorem ms_yX3_isPossible : Cond.selects RX3 yX3_isPossible yX3_isPossible ∈ wsL_law := aw_p17 _ (List.mem_of_getElem? (i := 15) rfl)
theorem mc_yX3_isPossible : Cond.code yX3_isPossible cX3_isPossible 4 (some .boolean) ∈ wsL_law := aw_p17 _ (List.mem_of_getElem? (i := 16) rfl)
theorem ml_RX3_100 : Cond.methodLink RX3 100 yX6_agreeWith ∈ wsL_law := aw_p17 _ (List.mem_of_getElem? (i := 17) rfl)
theorem mi_yX6_agreeWith : Cond.instanceMethod yX6_agreeWith ∈ wsL_law := aw_p17 _ (List.mem_of_getElem? (i := 18) rfl)
theorem ms_yX6_agreeWith : Cond.selects RX6 yX6_agreeWith yX6_agreeWith ∈ wsL_law := aw_p17 _ (List.mem_of_getElem? (i := 19) rfl)
theorem mc_yX6_agreeWith : Cond.code yX6_agreeWith cX6_agreeWith 5 (some .boolean) ∈ wsL_law := aw_p17 _ (List.mem_of_getElem? (i := 20) rfl)
theorem ml_RX7_130 : Cond.methodLink RX7 130 yX3_hourToLook ∈ wsL_law := aw_p17 _ (List.mem_of_getElem? (i := 21) rfl)
theorem mi_yX3_hourToLook : Cond.instanceMethod yX3_hourToLook ∈ wsL_law := aw_p17 _ (List.mem_of_getElem? (i := 22) rfl)
theorem ms_yX3_hourToLook : Cond.selects RX3 yX3_hourToLook yX3_hourToLook ∈ wsL_law := aw_p17 _ (List.mem_of_getElem? (i := 23) rfl)
theorem mc_yX3_hourToLook : Cond.code yX3_hourToLook cX3_hourToLook 4 (some .int) ∈ wsL_law := aw_p18 _ (List.mem_of_getElem? (i := 0) rfl)
theorem ml_RX3_63 : Cond.methodLink RX3 63 yJ7_fill_53178 ∈ wsL_law := aw_p18 _ (List.mem_of_getElem? (i := 1) rfl)
theorem mt_yJ7_fill_53178 : Cond.static yJ7_fill_53178 ∈ wsL_law := aw_p18 _ (List.mem_of_getElem? (i := 2) rfl)
theorem mn_RJ7 : Cond.initialized RJ7 ∈ wsL_law := aw_p18 _ (List.mem_of_getElem? (i := 3) rfl)
theorem mc_yJ7_fill_53178 : Cond.code yJ7_fill_53178 cJ7_fill_53178 4 none ∈ wsL_law := aw_p18 _ (List.mem_of_getElem? (i := 4) rfl)
theorem ml_RX3_69 : Cond.methodLink RX3 69 yX3_addTakes ∈ wsL_law := aw_p18 _ (List.mem_of_getElem? (i := 5) rfl)
theorem mi_yX3_addTakes : Cond.instanceMethod yX3_addTakes ∈ wsL_law := aw_p18 _ (List.mem_of_getElem? (i := 6) rfl)
theorem ms_yX3_addTakes : Cond.selects RX3 yX3_addTakes yX3_addTakes ∈ wsL_law := aw_p18 _ (List.mem_of_getElem? (i := 7) rfl)
theorem mc_yX3_addTakes : Cond.code yX3_addTakes cX3_addTakes 3 none ∈ wsL_law := aw_p18 _ (List.mem_of_getElem? (i := 8) rfl)
theorem ml_RX3_73 : Cond.methodLink RX3 73 yX3_hourThatParts ∈ wsL_law := aw_p18 _ (List.mem_of_getElem? (i := 9) rfl)
theorem mi_yX3_hourThatParts : Cond.instanceMethod yX3_hourThatParts ∈ wsL_law := aw_p18 _ (List.mem_of_getElem? (i := 10) rfl)
theorem ms_yX3_hourThatParts : Cond.selects RX3 yX3_hourThatParts yX3_hourThatParts ∈ wsL_law := aw_p18 _ (List.mem_of_getElem? (i := 11) rfl)
theorem mc_yX3_hourThatParts : Cond.code yX3_hourThatParts cX3_hourThatParts 6 (some .int) ∈ wsL_law := aw_p18 _ (List.mem_of_getElem? (i := 12) rfl)
theorem ml_RX3_92 : Cond.methodLink RX3 92 Lib.Math.max.name ∈ wsL_law := aw_p18 _ (List.mem_of_getElem? (i := 13) rfl)
theorem ml_RL_35 : Cond.methodLink RL 35 yX8_river ∈ wsL_law := aw_p18 _ (List.mem_of_getElem? (i := 14) rfl)
theorem mi_yX8_river : Cond.instanceMethod yX8_river ∈ wsL_law := aw_p18 _ (List.mem_of_getElem? (i := 15) rfl)
theorem ms_yX8_river : Cond.selects RX8 yX8_river yX8_river ∈ wsL_law := aw_p18 _ (List.mem_of_getElem? (i := 16) rfl)
theorem mc_yX8_river : Cond.code yX8_river cX8_river 3 (some .int) ∈ wsL_law := aw_p18 _ (List.mem_of_getElem? (i := 17) rfl)
theorem ml_RX8_153 : Cond.methodLink RX8 153 yX8_isRiver ∈ wsL_law := aw_p18 _ (List.mem_of_getElem? (i := 18) rfl)
theorem mi_yX8_isRiver : Cond.instanceMethod yX8_isRiver ∈ wsL_law := aw_p18 _ (List.mem_of_getElem? (i := 19) rfl)
theorem ms_yX8_isRiver : Cond.selects RX8 yX8_isRiver yX8_isRiver ∈ wsL_law := aw_p18 _ (List.mem_of_getElem? (i := 20) rfl)
theorem mc_yX8_isRiver : Cond.code yX8_isRiver cX8_isRiver 2 (some .boolean) ∈ wsL_law := aw_p18 _ (List.mem_of_getElem? (i := 21) rfl)
theorem ml_RX8_156 : Cond.methodLink RX8 156 yX8_tell ∈ wsL_law := aw_p18 _ (List.mem_of_getElem? (i := 22) rfl)
theorem mi_yX8_tell : Cond.instanceMethod yX8_tell ∈ wsL_law := aw_p18 _ (List.mem_of_getElem? (i := 23) rfl)
theorem ms_yX8_tell : Cond.selects RX8 yX8_tell yX8_tell ∈ wsL_law := aw_p19 _ (List.mem_of_getElem? (i := 0) rfl)
theorem mc_yX8_tell : Cond.code yX8_tell cX8_tell 3 (some .int) ∈ wsL_law := aw_p19 _ (List.mem_of_getElem? (i := 1) rfl)
theorem ml_RX8_141 : Cond.methodLink RX8 141 yX8_placeOf ∈ wsL_law := aw_p19 _ (List.mem_of_getElem? (i := 2) rfl)
theorem mi_yX8_placeOf : Cond.instanceMethod yX8_placeOf ∈ wsL_law := aw_p19 _ (List.mem_of_getElem? (i := 3) rfl)
theorem ms_yX8_placeOf : Cond.selects RX8 yX8_placeOf yX8_placeOf ∈ wsL_law := aw_p19 _ (List.mem_of_getElem? (i := 4) rfl)
theorem mc_yX8_placeOf : Cond.code yX8_placeOf cX8_placeOf 4 (some .int) ∈ wsL_law := aw_p19 _ (List.mem_of_getElem? (i := 5) rfl)
theorem ml_RX8_144 : Cond.methodLink RX8 144 yX8_waitsOf ∈ wsL_law := aw_p19 _ (List.mem_of_getElem? (i := 6) rfl)
theorem mi_yX8_waitsOf : Cond.instanceMethod yX8_waitsOf ∈ wsL_law := aw_p19 _ (List.mem_of_getElem? (i := 7) rfl)
theorem ms_yX8_waitsOf : Cond.selects RX8 yX8_waitsOf yX8_waitsOf ∈ wsL_law := aw_p19 _ (List.mem_of_getElem? (i := 8) rfl)
theorem mc_yX8_waitsOf : Cond.code yX8_waitsOf cX8_waitsOf 4 (some .int) ∈ wsL_law := aw_p19 _ (List.mem_of_getElem? (i := 9) rfl)
theorem mf_RX8_121 : Cond.fieldLink RX8 121 "RiversQueueModel" "tookOf" "I" ∈ wsL_law := aw_p19 _ (List.mem_of_getElem? (i := 10) rfl)
theorem ml_RX8_132 : Cond.methodLink RX8 132 yX8_layAside ∈ wsL_law := aw_p19 _ (List.mem_of_getElem? (i := 11) rfl)
theorem mi_yX8_layAside : Cond.instanceMethod yX8_layAside ∈ wsL_law := aw_p19 _ (List.mem_of_getElem? (i := 12) rfl)
theorem ms_yX8_layAside : Cond.selects RX8 yX8_layAside yX8_layAside ∈ wsL_law := aw_p19 _ (List.mem_of_getElem? (i := 13) rfl)
theorem mc_yX8_layAside : Cond.code yX8_layAside cX8_layAside 1 none ∈ wsL_law := aw_p19 _ (List.mem_of_getElem? (i := 14) rfl)
theorem ml_RX8_128 : Cond.methodLink RX8 128 yX8_copy ∈ wsL_law := aw_p19 _ (List.mem_of_getElem? (i := 15) rfl)
theorem mt_yX8_copy : Cond.static yX8_copy ∈ wsL_law := aw_p19 _ (List.mem_of_getElem? (i := 16) rfl)
theorem mc_yX8_copy : Cond.code yX8_copy cX8_copy 3 none ∈ wsL_law := aw_p19 _ (List.mem_of_getElem? (i := 17) rfl)
theorem ml_RX8_135 : Cond.methodLink RX8 135 yX8_goesBy ∈ wsL_law := aw_p19 _ (List.mem_of_getElem? (i := 18) rfl)
theorem mi_yX8_goesBy : Cond.instanceMethod yX8_goesBy ∈ wsL_law := aw_p19 _ (List.mem_of_getElem? (i := 19) rfl)
theorem ms_yX8_goesBy : Cond.selects RX8 yX8_goesBy yX8_goesBy ∈ wsL_law := aw_p19 _ (List.mem_of_getElem? (i := 20) rfl)
theorem mc_yX8_goesBy : Cond.code yX8_goesBy cX8_goesBy 4 none ∈ wsL_law := aw_p19 _ (List.mem_of_getElem? (i := 21) rfl)
theorem mf_RX8_118 : Cond.fieldLink RX8 118 "RiversQueueModel" "tookMuch" "I" ∈ wsL_law := aw_p19 _ (List.mem_of_getElem? (i := 22) rfl)
theorem ml_RX8_114 : Cond.methodLink RX8 114 yX8_pushes ∈ wsL_law := aw_p19 _ (List.mem_of_getElem? (i := 23) rfl)
theorem mi_yX8_pushes : Cond.instanceMethod yX8_pushes ∈ wsL_law := aw_p20 _ (List.mem_of_getElem? (i := 0) rfl)
theorem ms_yX8_pushes : Cond.selects RX8 yX8_pushes yX8_pushes ∈ wsL_law := aw_p20 _ (List.mem_of_getElem? (i := 1) rfl)
theorem mc_yX8_pushes : Cond.code yX8_pushes cX8_pushes 6 (some .boolean) ∈ wsL_law := aw_p20 _ (List.mem_of_getElem? (i := 2) rfl)
theorem ml_RX8_124 : Cond.methodLink RX8 124 yX8_goBehind ∈ wsL_law := aw_p20 _ (List.mem_of_getElem? (i := 3) rfl)
theorem mi_yX8_goBehind : Cond.instanceMethod yX8_goBehind ∈ wsL_law := aw_p20 _ (List.mem_of_getElem? (i := 4) rfl)
theorem ms_yX8_goBehind : Cond.selects RX8 yX8_goBehind yX8_goBehind ∈ wsL_law := aw_p20 _ (List.mem_of_getElem? (i := 5) rfl)
theorem mc_yX8_goBehind : Cond.code yX8_goBehind cX8_goBehind 4 none ∈ wsL_law := aw_p20 _ (List.mem_of_getElem? (i := 6) rfl)
theorem ml_RX8_138 : Cond.methodLink RX8 138 yX8_layBack ∈ wsL_law := aw_p20 _ (List.mem_of_getElem? (i := 7) rfl)
theorem mi_yX8_layBack : Cond.instanceMethod yX8_layBack ∈ wsL_law := aw_p20 _ (List.mem_of_getElem? (i := 8) rfl)
theorem ms_yX8_layBack : Cond.selects RX8 yX8_layBack yX8_layBack ∈ wsL_law := aw_p20 _ (List.mem_of_getElem? (i := 9) rfl)
theorem mc_yX8_layBack : Cond.code yX8_layBack cX8_layBack 1 none ∈ wsL_law := aw_p20 _ (List.mem_of_getElem? (i := 10) rfl)
theorem ml_RX8_147 : Cond.methodLink RX8 147 yX8_muchOf ∈ wsL_law := aw_p20 _ (List.mem_of_getElem? (i := 11) rfl)
theorem mi_yX8_muchOf : Cond.instanceMethod yX8_muchOf ∈ wsL_law := aw_p20 _ (List.mem_of_getElem? (i := 12) rfl)
theorem ms_yX8_muchOf : Cond.selects RX8 yX8_muchOf yX8_muchOf ∈ wsL_law := aw_p20 _ (List.mem_of_getElem? (i := 13) rfl)
theorem mc_yX8_muchOf : Cond.code yX8_muchOf cX8_muchOf 7 (some .int) ∈ wsL_law := aw_p20 _ (List.mem_of_getElem? (i := 14) rfl)
theorem ml_RX8_194 : Cond.methodLink RX8 194 yX8_layThen ∈ wsL_law := aw_p20 _ (List.mem_of_getElem? (i := 15) rfl)
theorem mi_yX8_layThen : Cond.instanceMethod yX8_layThen ∈ wsL_law := aw_p20 _ (List.mem_of_getElem? (i := 16) rfl)
theorem ms_yX8_layThen : Cond.selects RX8 yX8_layThen yX8_layThen ∈ wsL_law := aw_p20 _ (List.mem_of_getElem? (i := 17) rfl)
theorem mc_yX8_layThen : Cond.code yX8_layThen cX8_layThen 4 none ∈ wsL_law := aw_p20 _ (List.mem_of_getElem? (i := 18) rfl)
theorem ml_RX8_150 : Cond.methodLink RX8 150 yX8_lookOf ∈ wsL_law := aw_p20 _ (List.mem_of_getElem? (i := 19) rfl)
theorem mi_yX8_lookOf : Cond.instanceMethod yX8_lookOf ∈ wsL_law := aw_p20 _ (List.mem_of_getElem? (i := 20) rfl)
theorem ms_yX8_lookOf : Cond.selects RX8 yX8_lookOf yX8_lookOf ∈ wsL_law := aw_p20 _ (List.mem_of_getElem? (i := 21) rfl)
theorem mc_yX8_lookOf : Cond.code yX8_lookOf cX8_lookOf 8 (some .int) ∈ wsL_law := aw_p20 _ (List.mem_of_getElem? (i := 22) rfl)
theorem ml_RL_36 : Cond.methodLink RL 36 yX7_as ∈ wsL_law := aw_p20 _ (List.mem_of_getElem? (i := 23) rfl)
theorem mi_yX7_as : Cond.instanceMethod yX7_as ∈ wsL_law := aw_p21 _ (List.mem_of_getElem? (i := 0) rfl)
theorem ms_yX7_as : Cond.selects RX7 yX7_as yX7_as ∈ wsL_law := aw_p21 _ (List.mem_of_getElem? (i := 1) rfl)
theorem mc_yX7_as : Cond.code yX7_as cX7_as 3 (some .int) ∈ wsL_law := aw_p21 _ (List.mem_of_getElem? (i := 2) rfl)
theorem ml_RX7_133 : Cond.methodLink RX7 133 yX7_isSuch ∈ wsL_law := aw_p21 _ (List.mem_of_getElem? (i := 3) rfl)
theorem mt_yX7_isSuch : Cond.static yX7_isSuch ∈ wsL_law := aw_p21 _ (List.mem_of_getElem? (i := 4) rfl)
theorem mc_yX7_isSuch : Cond.code yX7_isSuch cX7_isSuch 2 (some .boolean) ∈ wsL_law := aw_p21 _ (List.mem_of_getElem? (i := 5) rfl)
theorem ml_RL_39 : Cond.methodLink RL 39 yX8_as ∈ wsL_law := aw_p21 _ (List.mem_of_getElem? (i := 6) rfl)
theorem mi_yX8_as : Cond.instanceMethod yX8_as ∈ wsL_law := aw_p21 _ (List.mem_of_getElem? (i := 7) rfl)
theorem ms_yX8_as : Cond.selects RX8 yX8_as yX8_as ∈ wsL_law := aw_p21 _ (List.mem_of_getElem? (i := 8) rfl)
theorem mc_yX8_as : Cond.code yX8_as cX8_as 4 (some .int) ∈ wsL_law := aw_p21 _ (List.mem_of_getElem? (i := 9) rfl)
theorem mq_RX8_160 : Cond.constantLong RX8 160 (4) ∈ wsL_law := aw_p21 _ (List.mem_of_getElem? (i := 10) rfl)
theorem ml_RL_40 : Cond.methodLink RL 40 yX7_row ∈ wsL_law := aw_p21 _ (List.mem_of_getElem? (i := 11) rfl)
theorem mi_yX7_row : Cond.instanceMethod yX7_row ∈ wsL_law := aw_p21 _ (List.mem_of_getElem? (i := 12) rfl)
theorem ms_yX7_row : Cond.selects RX7 yX7_row yX7_row ∈ wsL_law := aw_p21 _ (List.mem_of_getElem? (i := 13) rfl)
theorem mc_yX7_row : Cond.code yX7_row cX7_row 2 (some .int) ∈ wsL_law := aw_p21 _ (List.mem_of_getElem? (i := 14) rfl)
theorem ml_RL_43 : Cond.methodLink RL 43 yX8_row ∈ wsL_law := aw_p21 _ (List.mem_of_getElem? (i := 15) rfl)
theorem mi_yX8_row : Cond.instanceMethod yX8_row ∈ wsL_law := aw_p21 _ (List.mem_of_getElem? (i := 16) rfl)
theorem ms_yX8_row : Cond.selects RX8 yX8_row yX8_row ∈ wsL_law := aw_p21 _ (List.mem_of_getElem? (i := 17) rfl)
theorem mc_yX8_row : Cond.code yX8_row cX8_row 2 (some .int) ∈ wsL_law := aw_p21 _ (List.mem_of_getElem? (i := 18) rfl)
theorem ml_RL_44 : Cond.methodLink RL 44 yX7_hour ∈ wsL_law := aw_p21 _ (List.mem_of_getElem? (i := 19) rfl)
theorem mi_yX7_hour : Cond.instanceMethod yX7_hour ∈ wsL_law := aw_p21 _ (List.mem_of_getElem? (i := 20) rfl)
theorem ms_yX7_hour : Cond.selects RX7 yX7_hour yX7_hour ∈ wsL_law := aw_p21 _ (List.mem_of_getElem? (i := 21) rfl)
theorem mc_yX7_hour : Cond.code yX7_hour cX7_hour 1 (some .int) ∈ wsL_law := aw_p21 _ (List.mem_of_getElem? (i := 22) rfl)
theorem ml_RX7_140 : Cond.methodLink RX7 140 yX1_isRead ∈ wsL_law := aw_p21 _ (List.mem_of_getElem? (i := 23) rfl)
theorem mi_yX1_isRead : Cond.instanceMethod yX1_isRead ∈ wsL_law := aw_p22 _ (List.mem_of_getElem? (i := 0) rfl)
theorem ms_yX1_isRead : Cond.selects RX1 yX1_isRead yX1_isRead ∈ wsL_law := aw_p22 _ (List.mem_of_getElem? (i := 1) rfl)
theorem mc_yX1_isRead : Cond.code yX1_isRead cX1_isRead 1 (some .boolean) ∈ wsL_law := aw_p22 _ (List.mem_of_getElem? (i := 2) rfl)
theorem ml_RX7_143 : Cond.methodLink RX7 143 yX5_passHour ∈ wsL_law := aw_p22 _ (List.mem_of_getElem? (i := 3) rfl)
theorem ml_RL_47 : Cond.methodLink RL 47 yX8_hour ∈ wsL_law := aw_p22 _ (List.mem_of_getElem? (i := 4) rfl)
theorem mi_yX8_hour : Cond.instanceMethod yX8_hour ∈ wsL_law := aw_p22 _ (List.mem_of_getElem? (i := 5) rfl)
theorem ms_yX8_hour : Cond.selects RX8 yX8_hour yX8_hour ∈ wsL_law := aw_p22 _ (List.mem_of_getElem? (i := 6) rfl)
theorem mc_yX8_hour : Cond.code yX8_hour cX8_hour 1 (some .int) ∈ wsL_law := aw_p22 _ (List.mem_of_getElem? (i := 7) rfl)
theorem ml_RX8_162 : Cond.methodLink RX8 162 yX8_lacks ∈ wsL_law := aw_p22 _ (List.mem_of_getElem? (i := 8) rfl)
theorem mi_yX8_lacks : Cond.instanceMethod yX8_lacks ∈ wsL_law := aw_p22 _ (List.mem_of_getElem? (i := 9) rfl)
theorem ms_yX8_lacks : Cond.selects RX8 yX8_lacks yX8_lacks ∈ wsL_law := aw_p22 _ (List.mem_of_getElem? (i := 10) rfl)
theorem mc_yX8_lacks : Cond.code yX8_lacks cX8_lacks 1 (some .boolean) ∈ wsL_law := aw_p22 _ (List.mem_of_getElem? (i := 11) rfl)
theorem ml_RL_48 : Cond.methodLink RL 48 yX7_rain ∈ wsL_law := aw_p22 _ (List.mem_of_getElem? (i := 12) rfl)
theorem mi_yX7_rain : Cond.instanceMethod yX7_rain ∈ wsL_law := aw_p22 _ (List.mem_of_getElem? (i := 13) rfl)
theorem ms_yX7_rain : Cond.selects RX7 yX7_rain yX7_rain ∈ wsL_law := aw_p22 _ (List.mem_of_getElem? (i := 14) rfl)
theorem mc_yX7_rain : Cond.code yX7_rain cX7_rain 3 (some .int) ∈ wsL_law := aw_p22 _ (List.mem_of_getElem? (i := 15) rfl)
theorem ml_RX7_146 : Cond.methodLink RX7 146 yX5_addWater ∈ wsL_law := aw_p22 _ (List.mem_of_getElem? (i := 16) rfl)
theorem ml_RL_51 : Cond.methodLink RL 51 yX8_rain ∈ wsL_law := aw_p22 _ (List.mem_of_getElem? (i := 17) rfl)
theorem mi_yX8_rain : Cond.instanceMethod yX8_rain ∈ wsL_law := aw_p22 _ (List.mem_of_getElem? (i := 18) rfl)
theorem ms_yX8_rain : Cond.selects RX8 yX8_rain yX8_rain ∈ wsL_law := aw_p22 _ (List.mem_of_getElem? (i := 19) rfl)
theorem mc_yX8_rain : Cond.code yX8_rain cX8_rain 3 (some .int) ∈ wsL_law := aw_p22 _ (List.mem_of_getElem? (i := 20) rfl)
theorem mq_RX8_166 : Cond.constantLong RX8 166 (50) ∈ wsL_law := aw_p22 _ (List.mem_of_getElem? (i := 21) rfl)
theorem ml_RX8_168 : Cond.methodLink RX8 168 yX8_rains ∈ wsL_law := aw_p22 _ (List.mem_of_getElem? (i := 22) rfl)
theorem mi_yX8_rains : Cond.instanceMethod yX8_rains ∈ wsL_law := aw_p22 _ (List.mem_of_getElem? (i := 23) rfl)
theorem ms_yX8_rains : Cond.selects RX8 yX8_rains yX8_rains ∈ wsL_law := aw_p23 _ (List.mem_of_getElem? (i := 0) rfl)
theorem mc_yX8_rains : Cond.code yX8_rains cX8_rains 3 (some .int) ∈ wsL_law := aw_p23 _ (List.mem_of_getElem? (i := 1) rfl)
theorem ml_RL_52 : Cond.methodLink RL 52 yX7_drought ∈ wsL_law := aw_p23 _ (List.mem_of_getElem? (i := 2) rfl)
theorem mi_yX7_drought : Cond.instanceMethod yX7_drought ∈ wsL_law := aw_p23 _ (List.mem_of_getElem? (i := 3) rfl)
theorem ms_yX7_drought : Cond.selects RX7 yX7_drought yX7_drought ∈ wsL_law := aw_p23 _ (List.mem_of_getElem? (i := 4) rfl)
theorem mc_yX7_drought : Cond.code yX7_drought cX7_drought 2 (some .int) ∈ wsL_law := aw_p23 _ (List.mem_of_getElem? (i := 5) rfl)
theorem ml_RX7_150 : Cond.methodLink RX7 150 yX5_dryUp ∈ wsL_law := aw_p23 _ (List.mem_of_getElem? (i := 6) rfl)
theorem mi_yX5_dryUp : Cond.instanceMethod yX5_dryUp ∈ wsL_law := aw_p23 _ (List.mem_of_getElem? (i := 7) rfl)
theorem ms_yX5_dryUp : Cond.selects RX5 yX5_dryUp yX5_dryUp ∈ wsL_law := aw_p23 _ (List.mem_of_getElem? (i := 8) rfl)
theorem mc_yX5_dryUp : Cond.code yX5_dryUp cX5_dryUp 3 (some .int) ∈ wsL_law := aw_p23 _ (List.mem_of_getElem? (i := 9) rfl)
theorem ml_RX5_72 : Cond.methodLink RX5 72 yX5_placeOf ∈ wsL_law := aw_p23 _ (List.mem_of_getElem? (i := 10) rfl)
theorem ml_RL_55 : Cond.methodLink RL 55 yX8_drought ∈ wsL_law := aw_p23 _ (List.mem_of_getElem? (i := 11) rfl)
theorem mi_yX8_drought : Cond.instanceMethod yX8_drought ∈ wsL_law := aw_p23 _ (List.mem_of_getElem? (i := 12) rfl)
theorem ms_yX8_drought : Cond.selects RX8 yX8_drought yX8_drought ∈ wsL_law := aw_p23 _ (List.mem_of_getElem? (i := 13) rfl)
theorem mc_yX8_drought : Cond.code yX8_drought cX8_drought 3 (some .int) ∈ wsL_law := aw_p23 _ (List.mem_of_getElem? (i := 14) rfl)
theorem ml_RL_56 : Cond.methodLink RL 56 yX7_wide ∈ wsL_law := aw_p23 _ (List.mem_of_getElem? (i := 15) rfl)
theorem mi_yX7_wide : Cond.instanceMethod yX7_wide ∈ wsL_law := aw_p23 _ (List.mem_of_getElem? (i := 16) rfl)
theorem ms_yX7_wide : Cond.selects RX7 yX7_wide yX7_wide ∈ wsL_law := aw_p23 _ (List.mem_of_getElem? (i := 17) rfl)
theorem mc_yX7_wide : Cond.code yX7_wide cX7_wide 4 (some .int) ∈ wsL_law := aw_p23 _ (List.mem_of_getElem? (i := 18) rfl)
theorem ml_RX7_153 : Cond.methodLink RX7 153 yX3_widestHour ∈ wsL_law := aw_p23 _ (List.mem_of_getElem? (i := 19) rfl)
theorem mi_yX3_widestHour : Cond.instanceMethod yX3_widestHour ∈ wsL_law := aw_p23 _ (List.mem_of_getElem? (i := 20) rfl)
theorem ms_yX3_widestHour : Cond.selects RX3 yX3_widestHour yX3_widestHour ∈ wsL_law := aw_p23 _ (List.mem_of_getElem? (i := 21) rfl)
theorem mc_yX3_widestHour : Cond.code yX3_widestHour cX3_widestHour 6 (some .int) ∈ wsL_law := aw_p23 _ (List.mem_of_getElem? (i := 22) rfl)
theorem ml_RX3_56 : Cond.methodLink RX3 56 yX5_waterInAll ∈ wsL_law := aw_p23 _ (List.mem_of_getElem? (i := 23) rfl)
theorem mi_yX5_waterInAll : Cond.instanceMethod yX5_waterInAll ∈ wsL_law := aw_p24 _ (List.mem_of_getElem? (i := 0) rfl)
theorem ms_yX5_waterInAll : Cond.selects RX5 yX5_waterInAll yX5_waterInAll ∈ wsL_law := aw_p24 _ (List.mem_of_getElem? (i := 1) rfl)
theorem mc_yX5_waterInAll : Cond.code yX5_waterInAll cX5_waterInAll 1 (some .int) ∈ wsL_law := aw_p24 _ (List.mem_of_getElem? (i := 2) rfl)
theorem ml_RX5_49 : Cond.methodLink RX5 49 yX5_sumOfRivers ∈ wsL_law := aw_p24 _ (List.mem_of_getElem? (i := 3) rfl)
theorem mi_yX5_sumOfRivers : Cond.instanceMethod yX5_sumOfRivers ∈ wsL_law := aw_p24 _ (List.mem_of_getElem? (i := 4) rfl)
theorem ms_yX5_sumOfRivers : Cond.selects RX5 yX5_sumOfRivers yX5_sumOfRivers ∈ wsL_law := aw_p24 _ (List.mem_of_getElem? (i := 5) rfl)
theorem mc_yX5_sumOfRivers : Cond.code yX5_sumOfRivers cX5_sumOfRivers 4 (some .int) ∈ wsL_law := aw_p24 _ (List.mem_of_getElem? (i := 6) rfl)
theorem ml_RX7_156 : Cond.methodLink RX7 156 yX3_waterBehind ∈ wsL_law := aw_p24 _ (List.mem_of_getElem? (i := 7) rfl)
theorem mi_yX3_waterBehind : Cond.instanceMethod yX3_waterBehind ∈ wsL_law := aw_p24 _ (List.mem_of_getElem? (i := 8) rfl)
theorem ms_yX3_waterBehind : Cond.selects RX3 yX3_waterBehind yX3_waterBehind ∈ wsL_law := aw_p24 _ (List.mem_of_getElem? (i := 9) rfl)
theorem mc_yX3_waterBehind : Cond.code yX3_waterBehind cX3_waterBehind 3 (some .int) ∈ wsL_law := aw_p24 _ (List.mem_of_getElem? (i := 10) rfl)
theorem ml_RL_59 : Cond.methodLink RL 59 yX8_wide ∈ wsL_law := aw_p24 _ (List.mem_of_getElem? (i := 11) rfl)
theorem mi_yX8_wide : Cond.instanceMethod yX8_wide ∈ wsL_law := aw_p24 _ (List.mem_of_getElem? (i := 12) rfl)
theorem ms_yX8_wide : Cond.selects RX8 yX8_wide yX8_wide ∈ wsL_law := aw_p24 _ (List.mem_of_getElem? (i := 13) rfl)
theorem mc_yX8_wide : Cond.code yX8_wide cX8_wide 3 (some .int) ∈ wsL_law := aw_p24 _ (List.mem_of_getElem? (i := 14) rfl)
theorem mq_RX8_174 : Cond.constantLong RX8 174 (60) ∈ wsL_law := aw_p24 _ (List.mem_of_getElem? (i := 15) rfl)
theorem ml_RX8_176 : Cond.methodLink RX8 176 yX8_wideOf ∈ wsL_law := aw_p24 _ (List.mem_of_getElem? (i := 16) rfl)
theorem mi_yX8_wideOf : Cond.instanceMethod yX8_wideOf ∈ wsL_law := aw_p24 _ (List.mem_of_getElem? (i := 17) rfl)
theorem ms_yX8_wideOf : Cond.selects RX8 yX8_wideOf yX8_wideOf ∈ wsL_law := aw_p24 _ (List.mem_of_getElem? (i := 18) rfl)
theorem mc_yX8_wideOf : Cond.code yX8_wideOf cX8_wideOf 7 (some .int) ∈ wsL_law := aw_p24 _ (List.mem_of_getElem? (i := 19) rfl)
theorem ml_RX8_171 : Cond.methodLink RX8 171 yX8_standing ∈ wsL_law := aw_p24 _ (List.mem_of_getElem? (i := 20) rfl)
theorem mi_yX8_standing : Cond.instanceMethod yX8_standing ∈ wsL_law := aw_p24 _ (List.mem_of_getElem? (i := 21) rfl)
theorem ms_yX8_standing : Cond.selects RX8 yX8_standing yX8_standing ∈ wsL_law := aw_p24 _ (List.mem_of_getElem? (i := 22) rfl)
theorem mc_yX8_standing : Cond.code yX8_standing cX8_standing 3 (some .int) ∈ wsL_law := aw_p24 _ (List.mem_of_getElem? (i := 23) rfl)
theorem ml_RL_60 : Cond.methodLink RL 60 yX7_best ∈ wsL_law := aw_p25 _ (List.mem_of_getElem? (i := 0) rfl)
theorem mi_yX7_best : Cond.instanceMethod yX7_best ∈ wsL_law := aw_p25 _ (List.mem_of_getElem? (i := 1) rfl)
theorem ms_yX7_best : Cond.selects RX7 yX7_best yX7_best ∈ wsL_law := aw_p25 _ (List.mem_of_getElem? (i := 2) rfl)
theorem mc_yX7_best : Cond.code yX7_best cX7_best 3 (some .int) ∈ wsL_law := aw_p25 _ (List.mem_of_getElem? (i := 3) rfl)
theorem mf_RX7_159 : Cond.fieldLink RX7 159 "RiversQueue" "bestsDone" "I" ∈ wsL_law := aw_p25 _ (List.mem_of_getElem? (i := 4) rfl)
theorem ml_RX7_162 : Cond.methodLink RX7 162 yX0_find ∈ wsL_law := aw_p25 _ (List.mem_of_getElem? (i := 5) rfl)
theorem mi_yX0_find : Cond.instanceMethod yX0_find ∈ wsL_law := aw_p25 _ (List.mem_of_getElem? (i := 6) rfl)
theorem ms_yX0_find : Cond.selects RX0 yX0_find yX0_find ∈ wsL_law := aw_p25 _ (List.mem_of_getElem? (i := 7) rfl)
theorem mc_yX0_find : Cond.code yX0_find cX0_find 3 none ∈ wsL_law := aw_p25 _ (List.mem_of_getElem? (i := 8) rfl)
theorem mf_RX0_52 : Cond.fieldLink RX0 52 "RiversQueue$BestOrder" "least" "I" ∈ wsL_law := aw_p25 _ (List.mem_of_getElem? (i := 9) rfl)
theorem ml_RX0_40 : Cond.methodLink RX0 40 yX0_waterBehindOrder ∈ wsL_law := aw_p25 _ (List.mem_of_getElem? (i := 10) rfl)
theorem mi_yX0_waterBehindOrder : Cond.instanceMethod yX0_waterBehindOrder ∈ wsL_law := aw_p25 _ (List.mem_of_getElem? (i := 11) rfl)
theorem ms_yX0_waterBehindOrder : Cond.selects RX0 yX0_waterBehindOrder yX0_waterBehindOrder ∈ wsL_law := aw_p25 _ (List.mem_of_getElem? (i := 12) rfl)
theorem mc_yX0_waterBehindOrder : Cond.code yX0_waterBehindOrder cX0_waterBehindOrder 2 (some .int) ∈ wsL_law := aw_p25 _ (List.mem_of_getElem? (i := 13) rfl)
theorem ml_RX0_55 : Cond.methodLink RX0 55 arraycopyName ∈ wsL_law := aw_p25 _ (List.mem_of_getElem? (i := 14) rfl)
theorem ml_RX0_61 : Cond.methodLink RX0 61 yX5_copyFrom ∈ wsL_law := aw_p25 _ (List.mem_of_getElem? (i := 15) rfl)
theorem ml_RX0_68 : Cond.methodLink RX0 68 yX5_passHour ∈ wsL_law := aw_p25 _ (List.mem_of_getElem? (i := 16) rfl)
theorem ml_RX0_71 : Cond.methodLink RX0 71 yX5_waterInAll ∈ wsL_law := aw_p25 _ (List.mem_of_getElem? (i := 17) rfl)
theorem ml_RX0_44 : Cond.methodLink RX0 44 yX0_keepAsFound ∈ wsL_law := aw_p25 _ (List.mem_of_getElem? (i := 18) rfl)
theorem mi_yX0_keepAsFound : Cond.instanceMethod yX0_keepAsFound ∈ wsL_law := aw_p25 _ (List.mem_of_getElem? (i := 19) rfl)
theorem ms_yX0_keepAsFound : Cond.selects RX0 yX0_keepAsFound yX0_keepAsFound ∈ wsL_law := aw_p25 _ (List.mem_of_getElem? (i := 20) rfl)
theorem mc_yX0_keepAsFound : Cond.code yX0_keepAsFound cX0_keepAsFound 2 none ∈ wsL_law := aw_p25 _ (List.mem_of_getElem? (i := 21) rfl)
theorem ml_RX0_48 : Cond.methodLink RX0 48 yX0_goToNextOrder ∈ wsL_law := aw_p25 _ (List.mem_of_getElem? (i := 22) rfl)
theorem mi_yX0_goToNextOrder : Cond.instanceMethod yX0_goToNextOrder ∈ wsL_law := aw_p25 _ (List.mem_of_getElem? (i := 23) rfl)
theorem ms_yX0_goToNextOrder : Cond.selects RX0 yX0_goToNextOrder yX0_goToNextOrder ∈ wsL_law := aw_p26 _ (List.mem_of_getElem? (i := 0) rfl)
theorem mc_yX0_goToNextOrder : Cond.code yX0_goToNextOrder cX0_goToNextOrder 6 (some .boolean) ∈ wsL_law := aw_p26 _ (List.mem_of_getElem? (i := 1) rfl)
theorem ml_RX0_74 : Cond.methodLink RX0 74 yX0_swap ∈ wsL_law := aw_p26 _ (List.mem_of_getElem? (i := 2) rfl)
theorem mi_yX0_swap : Cond.instanceMethod yX0_swap ∈ wsL_law := aw_p26 _ (List.mem_of_getElem? (i := 3) rfl)
theorem ms_yX0_swap : Cond.selects RX0 yX0_swap yX0_swap ∈ wsL_law := aw_p26 _ (List.mem_of_getElem? (i := 4) rfl)
theorem mc_yX0_swap : Cond.code yX0_swap cX0_swap 4 none ∈ wsL_law := aw_p26 _ (List.mem_of_getElem? (i := 5) rfl)
theorem ml_RL_63 : Cond.methodLink RL 63 yX8_best ∈ wsL_law := aw_p26 _ (List.mem_of_getElem? (i := 6) rfl)
theorem mi_yX8_best : Cond.instanceMethod yX8_best ∈ wsL_law := aw_p26 _ (List.mem_of_getElem? (i := 7) rfl)
theorem ms_yX8_best : Cond.selects RX8 yX8_best yX8_best ∈ wsL_law := aw_p26 _ (List.mem_of_getElem? (i := 8) rfl)
theorem mc_yX8_best : Cond.code yX8_best cX8_best 3 (some .int) ∈ wsL_law := aw_p26 _ (List.mem_of_getElem? (i := 9) rfl)
theorem mq_RX8_182 : Cond.constantLong RX8 182 (10) ∈ wsL_law := aw_p26 _ (List.mem_of_getElem? (i := 10) rfl)
theorem mq_RX8_184 : Cond.constantLong RX8 184 (14) ∈ wsL_law := aw_p26 _ (List.mem_of_getElem? (i := 11) rfl)
theorem mf_RX8_186 : Cond.fieldLink RX8 186 "RiversQueueModel" "bestDone" "I" ∈ wsL_law := aw_p26 _ (List.mem_of_getElem? (i := 12) rfl)
theorem ml_RX8_189 : Cond.methodLink RX8 189 yX8_layBest ∈ wsL_law := aw_p26 _ (List.mem_of_getElem? (i := 13) rfl)
theorem mi_yX8_layBest : Cond.instanceMethod yX8_layBest ∈ wsL_law := aw_p26 _ (List.mem_of_getElem? (i := 14) rfl)
theorem ms_yX8_layBest : Cond.selects RX8 yX8_layBest yX8_layBest ∈ wsL_law := aw_p26 _ (List.mem_of_getElem? (i := 15) rfl)
theorem mc_yX8_layBest : Cond.code yX8_layBest cX8_layBest 6 (some .int) ∈ wsL_law := aw_p26 _ (List.mem_of_getElem? (i := 16) rfl)
theorem ml_RX8_179 : Cond.methodLink RX8 179 yX8_layStands ∈ wsL_law := aw_p26 _ (List.mem_of_getElem? (i := 17) rfl)
theorem mi_yX8_layStands : Cond.instanceMethod yX8_layStands ∈ wsL_law := aw_p26 _ (List.mem_of_getElem? (i := 18) rfl)
theorem ms_yX8_layStands : Cond.selects RX8 yX8_layStands yX8_layStands ∈ wsL_law := aw_p26 _ (List.mem_of_getElem? (i := 19) rfl)
theorem mc_yX8_layStands : Cond.code yX8_layStands cX8_layStands 5 (some .boolean) ∈ wsL_law := aw_p26 _ (List.mem_of_getElem? (i := 20) rfl)
theorem ml_RL_64 : Cond.methodLink RL 64 yX7_see ∈ wsL_law := aw_p26 _ (List.mem_of_getElem? (i := 21) rfl)
theorem mi_yX7_see : Cond.instanceMethod yX7_see ∈ wsL_law := aw_p26 _ (List.mem_of_getElem? (i := 22) rfl)
theorem ms_yX7_see : Cond.selects RX7 yX7_see yX7_see ∈ wsL_law := aw_p26 _ (List.mem_of_getElem? (i := 23) rfl)
theorem mc_yX7_see : Cond.code yX7_see cX7_see 4 (some .int) ∈ wsL_law := aw_p27 _ (List.mem_of_getElem? (i := 0) rfl)
theorem ml_RX7_171 : Cond.methodLink RX7 171 yX6_isFull ∈ wsL_law := aw_p27 _ (List.mem_of_getElem? (i := 1) rfl)
theorem mi_yX6_isFull : Cond.instanceMethod yX6_isFull ∈ wsL_law := aw_p27 _ (List.mem_of_getElem? (i := 2) rfl)
theorem ms_yX6_isFull : Cond.selects RX6 yX6_isFull yX6_isFull ∈ wsL_law := aw_p27 _ (List.mem_of_getElem? (i := 3) rfl)
theorem mc_yX6_isFull : Cond.code yX6_isFull cX6_isFull 1 (some .boolean) ∈ wsL_law := aw_p27 _ (List.mem_of_getElem? (i := 4) rfl)
theorem ml_RX7_172 : Cond.methodLink RX7 172 yX6_add ∈ wsL_law := aw_p27 _ (List.mem_of_getElem? (i := 5) rfl)
theorem mi_yX6_add : Cond.instanceMethod yX6_add ∈ wsL_law := aw_p27 _ (List.mem_of_getElem? (i := 6) rfl)
theorem ms_yX6_add : Cond.selects RX6 yX6_add yX6_add ∈ wsL_law := aw_p27 _ (List.mem_of_getElem? (i := 7) rfl)
theorem mc_yX6_add : Cond.code yX6_add cX6_add 4 (some .int) ∈ wsL_law := aw_p27 _ (List.mem_of_getElem? (i := 8) rfl)
theorem ml_RX6_26 : Cond.methodLink RX6 26 yX6_isFull ∈ wsL_law := aw_p27 _ (List.mem_of_getElem? (i := 9) rfl)
theorem ml_RL_68 : Cond.methodLink RL 68 yX8_see ∈ wsL_law := aw_p27 _ (List.mem_of_getElem? (i := 10) rfl)
theorem mi_yX8_see : Cond.instanceMethod yX8_see ∈ wsL_law := aw_p27 _ (List.mem_of_getElem? (i := 11) rfl)
theorem ms_yX8_see : Cond.selects RX8 yX8_see yX8_see ∈ wsL_law := aw_p27 _ (List.mem_of_getElem? (i := 12) rfl)
theorem mc_yX8_see : Cond.code yX8_see cX8_see 4 (some .int) ∈ wsL_law := aw_p27 _ (List.mem_of_getElem? (i := 13) rfl)
theorem mq_RX8_192 : Cond.constantLong RX8 192 (12) ∈ wsL_law := aw_p27 _ (List.mem_of_getElem? (i := 14) rfl)
theorem ml_RL_69 : Cond.methodLink RL 69 yX7_forget ∈ wsL_law := aw_p27 _ (List.mem_of_getElem? (i := 15) rfl)
theorem mi_yX7_forget : Cond.instanceMethod yX7_forget ∈ wsL_law := aw_p27 _ (List.mem_of_getElem? (i := 16) rfl)
theorem ms_yX7_forget : Cond.selects RX7 yX7_forget yX7_forget ∈ wsL_law := aw_p27 _ (List.mem_of_getElem? (i := 17) rfl)
theorem mc_yX7_forget : Cond.code yX7_forget cX7_forget 1 (some .int) ∈ wsL_law := aw_p27 _ (List.mem_of_getElem? (i := 18) rfl)
theorem ml_RL_72 : Cond.methodLink RL 72 yX8_forget ∈ wsL_law := aw_p27 _ (List.mem_of_getElem? (i := 19) rfl)
theorem mi_yX8_forget : Cond.instanceMethod yX8_forget ∈ wsL_law := aw_p27 _ (List.mem_of_getElem? (i := 20) rfl)
theorem ms_yX8_forget : Cond.selects RX8 yX8_forget yX8_forget ∈ wsL_law := aw_p27 _ (List.mem_of_getElem? (i := 21) rfl)
theorem mc_yX8_forget : Cond.code yX8_forget cX8_forget 2 (some .int) ∈ wsL_law := aw_p27 _ (List.mem_of_getElem? (i := 22) rfl)
theorem ml_RL_73 : Cond.methodLink RL 73 yX7_seasons ∈ wsL_law := aw_p27 _ (List.mem_of_getElem? (i := 23) rfl)
theorem mi_yX7_seasons : Cond.instanceMethod yX7_seasons ∈ wsL_law := aw_p28 _ (List.mem_of_getElem? (i := 0) rfl)
theorem ms_yX7_seasons : Cond.selects RX7 yX7_seasons yX7_seasons ∈ wsL_law := aw_p28 _ (List.mem_of_getElem? (i := 1) rfl)
theorem mc_yX7_seasons : Cond.code yX7_seasons cX7_seasons 5 (some .int) ∈ wsL_law := aw_p28 _ (List.mem_of_getElem? (i := 2) rfl)
theorem ml_RX7_176 : Cond.methodLink RX7 176 yX3_passSeasons ∈ wsL_law := aw_p28 _ (List.mem_of_getElem? (i := 3) rfl)
theorem mi_yX3_passSeasons : Cond.instanceMethod yX3_passSeasons ∈ wsL_law := aw_p28 _ (List.mem_of_getElem? (i := 4) rfl)
theorem ms_yX3_passSeasons : Cond.selects RX3 yX3_passSeasons yX3_passSeasons ∈ wsL_law := aw_p28 _ (List.mem_of_getElem? (i := 5) rfl)
theorem mc_yX3_passSeasons : Cond.code yX3_passSeasons cX3_passSeasons 7 (some .int) ∈ wsL_law := aw_p28 _ (List.mem_of_getElem? (i := 6) rfl)
theorem ml_RX3_80 : Cond.methodLink RX3 80 yX2_next ∈ wsL_law := aw_p28 _ (List.mem_of_getElem? (i := 7) rfl)
theorem mi_yX2_next : Cond.instanceMethod yX2_next ∈ wsL_law := aw_p28 _ (List.mem_of_getElem? (i := 8) rfl)
theorem ms_yX2_next : Cond.selects RX2 yX2_next yX2_next ∈ wsL_law := aw_p28 _ (List.mem_of_getElem? (i := 9) rfl)
theorem mc_yX2_next : Cond.code yX2_next cX2_next 2 (some .int) ∈ wsL_law := aw_p28 _ (List.mem_of_getElem? (i := 10) rfl)
theorem mq_RX2_7 : Cond.constantLong RX2 7 (1103515245) ∈ wsL_law := aw_p28 _ (List.mem_of_getElem? (i := 11) rfl)
theorem mf_RX2_9 : Cond.fieldLink RX2 9 "RiversQueue$Draws" "seed" "I" ∈ wsL_law := aw_p28 _ (List.mem_of_getElem? (i := 12) rfl)
theorem mq_RX2_15 : Cond.constantLong RX2 15 (12345) ∈ wsL_law := aw_p28 _ (List.mem_of_getElem? (i := 13) rfl)
theorem mq_RX2_17 : Cond.constantLong RX2 17 (2147483647) ∈ wsL_law := aw_p28 _ (List.mem_of_getElem? (i := 14) rfl)
theorem ml_RX3_88 : Cond.methodLink RX3 88 yX5_addWater ∈ wsL_law := aw_p28 _ (List.mem_of_getElem? (i := 15) rfl)
theorem ml_RX7_182 : Cond.methodLink RX7 182 yX5_waterInAll ∈ wsL_law := aw_p28 _ (List.mem_of_getElem? (i := 16) rfl)
theorem ml_RL_77 : Cond.methodLink RL 77 yX8_seasons ∈ wsL_law := aw_p28 _ (List.mem_of_getElem? (i := 17) rfl)
theorem mi_yX8_seasons : Cond.instanceMethod yX8_seasons ∈ wsL_law := aw_p28 _ (List.mem_of_getElem? (i := 18) rfl)
theorem ms_yX8_seasons : Cond.selects RX8 yX8_seasons yX8_seasons ∈ wsL_law := aw_p28 _ (List.mem_of_getElem? (i := 19) rfl)
theorem mc_yX8_seasons : Cond.code yX8_seasons cX8_seasons 8 (some .int) ∈ wsL_law := aw_p28 _ (List.mem_of_getElem? (i := 20) rfl)
theorem mq_RX8_208 : Cond.constantLong RX8 208 (2) ∈ wsL_law := aw_p28 _ (List.mem_of_getElem? (i := 21) rfl)
theorem mf_RX8_200 : Cond.fieldLink RX8 200 "RiversQueueModel" "seedNow" "I" ∈ wsL_law := aw_p28 _ (List.mem_of_getElem? (i := 22) rfl)
theorem ml_RX8_210 : Cond.methodLink RX8 210 yX8_draw ∈ wsL_law := aw_p28 _ (List.mem_of_getElem? (i := 23) rfl)
theorem mi_yX8_draw : Cond.instanceMethod yX8_draw ∈ wsL_law := aw_p29 _ (List.mem_of_getElem? (i := 0) rfl)
theorem ms_yX8_draw : Cond.selects RX8 yX8_draw yX8_draw ∈ wsL_law := aw_p29 _ (List.mem_of_getElem? (i := 1) rfl)
theorem mc_yX8_draw : Cond.code yX8_draw cX8_draw 2 (some .int) ∈ wsL_law := aw_p29 _ (List.mem_of_getElem? (i := 2) rfl)
theorem mq_RX8_198 : Cond.constantLong RX8 198 (1103515245) ∈ wsL_law := aw_p29 _ (List.mem_of_getElem? (i := 3) rfl)
theorem mq_RX8_203 : Cond.constantLong RX8 203 (12345) ∈ wsL_law := aw_p29 _ (List.mem_of_getElem? (i := 4) rfl)
theorem mq_RX8_205 : Cond.constantLong RX8 205 (2147483647) ∈ wsL_law := aw_p29 _ (List.mem_of_getElem? (i := 5) rfl)
theorem mo_RX8_207 : Cond.constant RX8 207 (65536) ∈ wsL_law := aw_p29 _ (List.mem_of_getElem? (i := 6) rfl)
theorem ml_RL_78 : Cond.methodLink RL 78 yX7_image ∈ wsL_law := aw_p29 _ (List.mem_of_getElem? (i := 7) rfl)
theorem mi_yX7_image : Cond.instanceMethod yX7_image ∈ wsL_law := aw_p29 _ (List.mem_of_getElem? (i := 8) rfl)
theorem ms_yX7_image : Cond.selects RX7 yX7_image yX7_image ∈ wsL_law := aw_p29 _ (List.mem_of_getElem? (i := 9) rfl)
theorem mc_yX7_image : Cond.code yX7_image cX7_image 1 (some .int) ∈ wsL_law := aw_p29 _ (List.mem_of_getElem? (i := 10) rfl)
theorem ml_RX7_194 : Cond.methodLink RX7 194 yX5_copyFrom ∈ wsL_law := aw_p29 _ (List.mem_of_getElem? (i := 11) rfl)
theorem ml_RX7_198 : Cond.methodLink RX7 198 yX6_copyFrom ∈ wsL_law := aw_p29 _ (List.mem_of_getElem? (i := 12) rfl)
theorem mi_yX6_copyFrom : Cond.instanceMethod yX6_copyFrom ∈ wsL_law := aw_p29 _ (List.mem_of_getElem? (i := 13) rfl)
theorem ms_yX6_copyFrom : Cond.selects RX6 yX6_copyFrom yX6_copyFrom ∈ wsL_law := aw_p29 _ (List.mem_of_getElem? (i := 14) rfl)
theorem mc_yX6_copyFrom : Cond.code yX6_copyFrom cX6_copyFrom 3 none ∈ wsL_law := aw_p29 _ (List.mem_of_getElem? (i := 15) rfl)
theorem ml_RL_81 : Cond.methodLink RL 81 yX8_image ∈ wsL_law := aw_p29 _ (List.mem_of_getElem? (i := 16) rfl)
theorem mi_yX8_image : Cond.instanceMethod yX8_image ∈ wsL_law := aw_p29 _ (List.mem_of_getElem? (i := 17) rfl)
theorem ms_yX8_image : Cond.selects RX8 yX8_image yX8_image ∈ wsL_law := aw_p29 _ (List.mem_of_getElem? (i := 18) rfl)
theorem mc_yX8_image : Cond.code yX8_image cX8_image 1 (some .int) ∈ wsL_law := aw_p29 _ (List.mem_of_getElem? (i := 19) rfl)
theorem mf_RX8_213 : Cond.fieldLink RX8 213 "RiversQueueModel" "keptHours" "I" ∈ wsL_law := aw_p29 _ (List.mem_of_getElem? (i := 20) rfl)
theorem mf_RX8_216 : Cond.fieldLink RX8 216 "RiversQueueModel" "keptSeen" "I" ∈ wsL_law := aw_p29 _ (List.mem_of_getElem? (i := 21) rfl)
theorem ml_RL_82 : Cond.methodLink RL 82 yX7_restore ∈ wsL_law := aw_p29 _ (List.mem_of_getElem? (i := 22) rfl)
theorem mi_yX7_restore : Cond.instanceMethod yX7_restore ∈ wsL_law := aw_p29 _ (List.mem_of_getElem? (i := 23) rfl)
theorem ms_yX7_restore : Cond.selects RX7 yX7_restore yX7_restore ∈ wsL_law := aw_p30 _ (List.mem_of_getElem? (i := 0) rfl)
theorem mc_yX7_restore : Cond.code yX7_restore cX7_restore 1 (some .int) ∈ wsL_law := aw_p30 _ (List.mem_of_getElem? (i := 1) rfl)
theorem ml_RL_85 : Cond.methodLink RL 85 yX8_restore ∈ wsL_law := aw_p30 _ (List.mem_of_getElem? (i := 2) rfl)
theorem mi_yX8_restore : Cond.instanceMethod yX8_restore ∈ wsL_law := aw_p30 _ (List.mem_of_getElem? (i := 3) rfl)
theorem ms_yX8_restore : Cond.selects RX8 yX8_restore yX8_restore ∈ wsL_law := aw_p30 _ (List.mem_of_getElem? (i := 4) rfl)
theorem mc_yX8_restore : Cond.code yX8_restore cX8_restore 1 (some .int) ∈ wsL_law := aw_p30 _ (List.mem_of_getElem? (i := 5) rfl)
theorem ml_RL_86 : Cond.methodLink RL 86 yX7_count ∈ wsL_law := aw_p30 _ (List.mem_of_getElem? (i := 6) rfl)
theorem mi_yX7_count : Cond.instanceMethod yX7_count ∈ wsL_law := aw_p30 _ (List.mem_of_getElem? (i := 7) rfl)
theorem ms_yX7_count : Cond.selects RX7 yX7_count yX7_count ∈ wsL_law := aw_p30 _ (List.mem_of_getElem? (i := 8) rfl)
theorem mc_yX7_count : Cond.code yX7_count cX7_count 2 (some .int) ∈ wsL_law := aw_p30 _ (List.mem_of_getElem? (i := 9) rfl)
theorem ml_RX7_207 : Cond.methodLink RX7 207 yX5_tookInAll ∈ wsL_law := aw_p30 _ (List.mem_of_getElem? (i := 10) rfl)
theorem mi_yX5_tookInAll : Cond.instanceMethod yX5_tookInAll ∈ wsL_law := aw_p30 _ (List.mem_of_getElem? (i := 11) rfl)
theorem ms_yX5_tookInAll : Cond.selects RX5 yX5_tookInAll yX5_tookInAll ∈ wsL_law := aw_p30 _ (List.mem_of_getElem? (i := 12) rfl)
theorem mc_yX5_tookInAll : Cond.code yX5_tookInAll cX5_tookInAll 1 (some .int) ∈ wsL_law := aw_p30 _ (List.mem_of_getElem? (i := 13) rfl)
theorem ml_RL_89 : Cond.methodLink RL 89 yX8_count ∈ wsL_law := aw_p30 _ (List.mem_of_getElem? (i := 14) rfl)
theorem mi_yX8_count : Cond.instanceMethod yX8_count ∈ wsL_law := aw_p30 _ (List.mem_of_getElem? (i := 15) rfl)
theorem ms_yX8_count : Cond.selects RX8 yX8_count yX8_count ∈ wsL_law := aw_p30 _ (List.mem_of_getElem? (i := 16) rfl)
theorem mc_yX8_count : Cond.code yX8_count cX8_count 2 (some .int) ∈ wsL_law := aw_p30 _ (List.mem_of_getElem? (i := 17) rfl)
theorem ml_RX8_222 : Cond.methodLink RX8 222 yX8_countOf ∈ wsL_law := aw_p30 _ (List.mem_of_getElem? (i := 18) rfl)
theorem mi_yX8_countOf : Cond.instanceMethod yX8_countOf ∈ wsL_law := aw_p30 _ (List.mem_of_getElem? (i := 19) rfl)
theorem ms_yX8_countOf : Cond.selects RX8 yX8_countOf yX8_countOf ∈ wsL_law := aw_p30 _ (List.mem_of_getElem? (i := 20) rfl)
theorem mc_yX8_countOf : Cond.code yX8_countOf cX8_countOf 2 (some .int) ∈ wsL_law := aw_p30 _ (List.mem_of_getElem? (i := 21) rfl)
theorem ml_RX8_219 : Cond.methodLink RX8 219 yX8_takenAll ∈ wsL_law := aw_p30 _ (List.mem_of_getElem? (i := 22) rfl)
theorem mi_yX8_takenAll : Cond.instanceMethod yX8_takenAll ∈ wsL_law := aw_p30 _ (List.mem_of_getElem? (i := 23) rfl)
theorem ms_yX8_takenAll : Cond.selects RX8 yX8_takenAll yX8_takenAll ∈ wsL_law := aw_p31 _ (List.mem_of_getElem? (i := 0) rfl)
theorem mc_yX8_takenAll : Cond.code yX8_takenAll cX8_takenAll 3 (some .int) ∈ wsL_law := aw_p31 _ (List.mem_of_getElem? (i := 1) rfl)
theorem ml_RL_90 : Cond.methodLink RL 90 yX7_digest ∈ wsL_law := aw_p31 _ (List.mem_of_getElem? (i := 2) rfl)
theorem mi_yX7_digest : Cond.instanceMethod yX7_digest ∈ wsL_law := aw_p31 _ (List.mem_of_getElem? (i := 3) rfl)
theorem ms_yX7_digest : Cond.selects RX7 yX7_digest yX7_digest ∈ wsL_law := aw_p31 _ (List.mem_of_getElem? (i := 4) rfl)
theorem mc_yX7_digest : Cond.code yX7_digest cX7_digest 5 (some .long) ∈ wsL_law := aw_p31 _ (List.mem_of_getElem? (i := 5) rfl)
theorem mq_RX7_214 : Cond.constantLong RX7 214 (971) ∈ wsL_law := aw_p31 _ (List.mem_of_getElem? (i := 6) rfl)
theorem ml_RX7_216 : Cond.methodLink RX7 216 yX7_river ∈ wsL_law := aw_p31 _ (List.mem_of_getElem? (i := 7) rfl)
theorem ml_RX7_219 : Cond.methodLink RX7 219 yX7_mixed ∈ wsL_law := aw_p31 _ (List.mem_of_getElem? (i := 8) rfl)
theorem mt_yX7_mixed : Cond.static yX7_mixed ∈ wsL_law := aw_p31 _ (List.mem_of_getElem? (i := 9) rfl)
theorem mc_yX7_mixed : Cond.code yX7_mixed cX7_mixed 4 (some .long) ∈ wsL_law := aw_p31 _ (List.mem_of_getElem? (i := 10) rfl)
theorem mq_RX7_234 : Cond.constantLong RX7 234 (31) ∈ wsL_law := aw_p31 _ (List.mem_of_getElem? (i := 11) rfl)
theorem ml_RX7_223 : Cond.methodLink RX7 223 yX7_row ∈ wsL_law := aw_p31 _ (List.mem_of_getElem? (i := 12) rfl)
theorem ml_RX7_225 : Cond.methodLink RX7 225 yX7_wide ∈ wsL_law := aw_p31 _ (List.mem_of_getElem? (i := 13) rfl)
theorem ml_RX7_231 : Cond.methodLink RX7 231 yX7_count ∈ wsL_law := aw_p31 _ (List.mem_of_getElem? (i := 14) rfl)
theorem ml_RL_94 : Cond.methodLink RL 94 yX8_digest ∈ wsL_law := aw_p31 _ (List.mem_of_getElem? (i := 15) rfl)
theorem mi_yX8_digest : Cond.instanceMethod yX8_digest ∈ wsL_law := aw_p31 _ (List.mem_of_getElem? (i := 16) rfl)
theorem ms_yX8_digest : Cond.selects RX8 yX8_digest yX8_digest ∈ wsL_law := aw_p31 _ (List.mem_of_getElem? (i := 17) rfl)
theorem mc_yX8_digest : Cond.code yX8_digest cX8_digest 3 (some .long) ∈ wsL_law := aw_p31 _ (List.mem_of_getElem? (i := 18) rfl)
theorem mq_RX8_231 : Cond.constantLong RX8 231 (971) ∈ wsL_law := aw_p31 _ (List.mem_of_getElem? (i := 19) rfl)
theorem mf_RX8_227 : Cond.fieldLink RX8 227 "RiversQueueModel" "hash" "J" ∈ wsL_law := aw_p31 _ (List.mem_of_getElem? (i := 20) rfl)
theorem ml_RX8_233 : Cond.methodLink RX8 233 yX8_say ∈ wsL_law := aw_p31 _ (List.mem_of_getElem? (i := 21) rfl)
theorem mi_yX8_say : Cond.instanceMethod yX8_say ∈ wsL_law := aw_p31 _ (List.mem_of_getElem? (i := 22) rfl)
theorem ms_yX8_say : Cond.selects RX8 yX8_say yX8_say ∈ wsL_law := aw_p31 _ (List.mem_of_getElem? (i := 23) rfl)
theorem mc_yX8_say : Cond.code yX8_say cX8_say 3 none ∈ wsL_law := aw_p32 _ (List.mem_of_getElem? (i := 0) rfl)
theorem mq_RX8_225 : Cond.constantLong RX8 225 (31) ∈ wsL_law := aw_p32 _ (List.mem_of_getElem? (i := 1) rfl)
end
section
theorem dX0_init_0 : decode cX0_init 0 = .ok (.aload_n 0, 1) := by decide +kernel
theorem dX0_init_1 : decode cX0_init 1 = .ok (.invokespecial 3, 3) := by decide +kernel
theorem dX0_init_4 : decode cX0_init 4 = .ok (.aload_n 0, 1) := by decide +kernel
theorem dX0_init_5 : decode cX0_init 5 = .ok (.iconst 5, 1) := by decide +kernel
theorem dX0_init_6 : decode cX0_init 6 = .ok (.newarray .int, 2) := by decide +kernel
theorem dX0_init_8 : decode cX0_init 8 = .ok (.putfield 9, 3) := by decide +kernel
theorem dX0_init_11 : decode cX0_init 11 = .ok (.aload_n 0, 1) := by decide +kernel
theorem dX0_init_12 : decode cX0_init 12 = .ok (.iconst 5, 1) := by decide +kernel
theorem dX0_init_13 : decode cX0_init 13 = .ok (.newarray .int, 2) := by decide +kernel
theorem dX0_init_15 : decode cX0_init 15 = .ok (.putfield 15, 3) := by decide +kernel
theorem dX0_init_18 : decode cX0_init 18 = .ok (.aload_n 0, 1) := by decide +kernel
theorem dX0_init_19 : decode cX0_init 19 = .ok (.aload_n 1, 1) := by decide +kernel
theorem dX0_init_20 : decode cX0_init 20 = .ok (.putfield 18, 3) := by decide +kernel
theorem dX0_init_23 : decode cX0_init 23 = .ok (.aload_n 0, 1) := by decide +kernel
theorem dX0_init_24 : decode cX0_init 24 = .ok (.aload_n 2, 1) := by decide +kernel
theorem dX0_init_25 : decode cX0_init 25 = .ok (.putfield 22, 3) := by decide +kernel
theorem dX0_init_28 : decode cX0_init 28 = .ok (.aload_n 0, 1) := by decide +kernel
theorem dX0_init_29 : decode cX0_init 29 = .ok (.new 26, 3) := by decide +kernel
theorem dX0_init_32 : decode cX0_init 32 = .ok (.dup, 1) := by decide +kernel
theorem dX0_init_33 : decode cX0_init 33 = .ok (.aload_n 1, 1) := by decide +kernel
theorem dX0_init_34 : decode cX0_init 34 = .ok (.invokespecial 28, 3) := by decide +kernel
theorem dX0_init_37 : decode cX0_init 37 = .ok (.putfield 31, 3) := by decide +kernel
theorem dX0_init_40 : decode cX0_init 40 = .ok (.return_, 1) := by decide +kernel
theorem dX0_find_0 : decode cX0_find 0 = .ok (.iconst 0, 1) := by decide +kernel
theorem dX0_find_1 : decode cX0_find 1 = .ok (.istore_n 1, 1) := by decide +kernel
theorem dX0_find_2 : decode cX0_find 2 = .ok (.iload_n 1, 1) := by decide +kernel
theorem dX0_find_3 : decode cX0_find 3 = .ok (.aload_n 0, 1) := by decide +kernel
theorem dX0_find_4 : decode cX0_find 4 = .ok (.getfield 18, 3) := by decide +kernel
theorem dX0_find_7 : decode cX0_find 7 = .ok (.getfield 34, 3) := by decide +kernel
theorem dX0_find_10 : decode cX0_find 10 = .ok (.if_icmp .ge 16, 3) := by decide +kernel
theorem dX0_find_13 : decode cX0_find 13 = .ok (.aload_n 0, 1) := by decide +kernel
theorem dX0_find_14 : decode cX0_find 14 = .ok (.getfield 9, 3) := by decide +kernel
theorem dX0_find_17 : decode cX0_find 17 = .ok (.iload_n 1, 1) := by decide +kernel
theorem dX0_find_18 : decode cX0_find 18 = .ok (.iload_n 1, 1) := by decide +kernel
theorem dX0_find_19 : decode cX0_find 19 = .ok (.iastore, 1) := by decide +kernel
theorem dX0_find_20 : decode cX0_find 20 = .ok (.iinc 1 1, 3) := by decide +kernel
theorem dX0_find_23 : decode cX0_find 23 = .ok (.goto (-21), 3) := by decide +kernel
theorem dX0_find_26 : decode cX0_find 26 = .ok (.aload_n 0, 1) := by decide +kernel
theorem dX0_find_27 : decode cX0_find 27 = .ok (.aload_n 0, 1) := by decide +kernel
theorem dX0_find_28 : decode cX0_find 28 = .ok (.invokevirtual 40, 3) := by decide +kernel
theorem dX0_find_31 : decode cX0_find 31 = .ok (.invokevirtual 44, 3) := by decide +kernel
theorem dX0_find_34 : decode cX0_find 34 = .ok (.iconst 1, 1) := by decide +kernel
theorem dX0_find_35 : decode cX0_find 35 = .ok (.istore_n 1, 1) := by decide +kernel
theorem dX0_find_36 : decode cX0_find 36 = .ok (.iload_n 1, 1) := by decide +kernel
theorem dX0_find_37 : decode cX0_find 37 = .ok (.bipush 120, 2) := by decide +kernel
theorem dX0_find_39 : decode cX0_find 39 = .ok (.if_icmp .ge 34, 3) := by decide +kernel
theorem dX0_find_42 : decode cX0_find 42 = .ok (.aload_n 0, 1) := by decide +kernel
theorem dX0_find_43 : decode cX0_find 43 = .ok (.invokevirtual 48, 3) := by decide +kernel
theorem dX0_find_46 : decode cX0_find 46 = .ok (.ifCond .eq 27, 3) := by decide +kernel
theorem dX0_find_49 : decode cX0_find 49 = .ok (.aload_n 0, 1) := by decide +kernel
theorem dX0_find_50 : decode cX0_find 50 = .ok (.invokevirtual 40, 3) := by decide +kernel
theorem dX0_find_53 : decode cX0_find 53 = .ok (.istore_n 2, 1) := by decide +kernel
theorem dX0_find_54 : decode cX0_find 54 = .ok (.iload_n 2, 1) := by decide +kernel
theorem dX0_find_55 : decode cX0_find 55 = .ok (.aload_n 0, 1) := by decide +kernel
theorem dX0_find_56 : decode cX0_find 56 = .ok (.getfield 52, 3) := by decide +kernel
theorem dX0_find_59 : decode cX0_find 59 = .ok (.if_icmp .ge 8, 3) := by decide +kernel
theorem dX0_find_62 : decode cX0_find 62 = .ok (.aload_n 0, 1) := by decide +kernel
theorem dX0_find_63 : decode cX0_find 63 = .ok (.iload_n 2, 1) := by decide +kernel
theorem dX0_find_64 : decode cX0_find 64 = .ok (.invokevirtual 44, 3) := by decide +kernel
theorem dX0_find_67 : decode cX0_find 67 = .ok (.iinc 1 1, 3) := by decide +kernel
theorem dX0_find_70 : decode cX0_find 70 = .ok (.goto (-34), 3) := by decide +kernel
theorem dX0_find_73 : decode cX0_find 73 = .ok (.return_, 1) := by decide +kernel
theorem dX0_keepAsFound_0 : decode cX0_keepAsFound 0 = .ok (.aload_n 0, 1) := by decide +kernel
theorem dX0_keepAsFound_1 : decode cX0_keepAsFound 1 = .ok (.iload_n 1, 1) := by decide +kernel
theorem dX0_keepAsFound_2 : decode cX0_keepAsFound 2 = .ok (.putfield 52, 3) := by decide +kernel
theorem dX0_keepAsFound_5 : decode cX0_keepAsFound 5 = .ok (.aload_n 0, 1) := by decide +kernel
theorem dX0_keepAsFound_6 : decode cX0_keepAsFound 6 = .ok (.getfield 9, 3) := by decide +kernel
theorem dX0_keepAsFound_9 : decode cX0_keepAsFound 9 = .ok (.iconst 0, 1) := by decide +kernel
theorem dX0_keepAsFound_10 : decode cX0_keepAsFound 10 = .ok (.aload_n 0, 1) := by decide +kernel
theorem dX0_keepAsFound_11 : decode cX0_keepAsFound 11 = .ok (.getfield 15, 3) := by decide +kernel
theorem dX0_keepAsFound_14 : decode cX0_keepAsFound 14 = .ok (.iconst 0, 1) := by decide +kernel
theorem dX0_keepAsFound_15 : decode cX0_keepAsFound 15 = .ok (.iconst 5, 1) := by decide +kernel
theorem dX0_keepAsFound_16 : decode cX0_keepAsFound 16 = .ok (.invokestatic 55, 3) := by decide +kernel
theorem dX0_keepAsFound_19 : decode cX0_keepAsFound 19 = .ok (.return_, 1) := by decide +kernel
theorem dX0_waterBehindOrder_0 : decode cX0_waterBehindOrder 0 = .ok (.aload_n 0, 1) := by decide +kernel
theorem dX0_waterBehindOrder_1 : decode cX0_waterBehindOrder 1 = .ok (.getfield 31, 3) := by decide +kernel
theorem dX0_waterBehindOrder_4 : decode cX0_waterBehindOrder 4 = .ok (.aload_n 0, 1) := by decide +kernel
theorem dX0_waterBehindOrder_5 : decode cX0_waterBehindOrder 5 = .ok (.getfield 22, 3) := by decide +kernel
theorem dX0_waterBehindOrder_8 : decode cX0_waterBehindOrder 8 = .ok (.invokevirtual 61, 3) := by decide +kernel
theorem dX0_waterBehindOrder_11 : decode cX0_waterBehindOrder 11 = .ok (.aload_n 0, 1) := by decide +kernel
theorem dX0_waterBehindOrder_12 : decode cX0_waterBehindOrder 12 = .ok (.getfield 9, 3) := by decide +kernel
theorem dX0_waterBehindOrder_15 : decode cX0_waterBehindOrder 15 = .ok (.iconst 0, 1) := by decide +kernel
theorem dX0_waterBehindOrder_16 : decode cX0_waterBehindOrder 16 = .ok (.aload_n 0, 1) := by decide +kernel
theorem dX0_waterBehindOrder_17 : decode cX0_waterBehindOrder 17 = .ok (.getfield 31, 3) := by decide +kernel
theorem dX0_waterBehindOrder_20 : decode cX0_waterBehindOrder 20 = .ok (.getfield 65, 3) := by decide +kernel
theorem dX0_waterBehindOrder_23 : decode cX0_waterBehindOrder 23 = .ok (.iconst 0, 1) := by decide +kernel
theorem dX0_waterBehindOrder_24 : decode cX0_waterBehindOrder 24 = .ok (.iconst 5, 1) := by decide +kernel
theorem dX0_waterBehindOrder_25 : decode cX0_waterBehindOrder 25 = .ok (.invokestatic 55, 3) := by decide +kernel
theorem dX0_waterBehindOrder_28 : decode cX0_waterBehindOrder 28 = .ok (.iconst 1, 1) := by decide +kernel
theorem dX0_waterBehindOrder_29 : decode cX0_waterBehindOrder 29 = .ok (.istore_n 1, 1) := by decide +kernel
theorem dX0_waterBehindOrder_30 : decode cX0_waterBehindOrder 30 = .ok (.iload_n 1, 1) := by decide +kernel
theorem dX0_waterBehindOrder_31 : decode cX0_waterBehindOrder 31 = .ok (.bipush 10, 2) := by decide +kernel
theorem dX0_waterBehindOrder_33 : decode cX0_waterBehindOrder 33 = .ok (.if_icmp .gt 17, 3) := by decide +kernel
theorem dX0_waterBehindOrder_36 : decode cX0_waterBehindOrder 36 = .ok (.aload_n 0, 1) := by decide +kernel
theorem dX0_waterBehindOrder_37 : decode cX0_waterBehindOrder 37 = .ok (.getfield 31, 3) := by decide +kernel
theorem dX0_waterBehindOrder_40 : decode cX0_waterBehindOrder 40 = .ok (.invokevirtual 68, 3) := by decide +kernel
theorem dX0_waterBehindOrder_43 : decode cX0_waterBehindOrder 43 = .ok (.pop, 1) := by decide +kernel
theorem dX0_waterBehindOrder_44 : decode cX0_waterBehindOrder 44 = .ok (.iinc 1 1, 3) := by decide +kernel
theorem dX0_waterBehindOrder_47 : decode cX0_waterBehindOrder 47 = .ok (.goto (-17), 3) := by decide +kernel
theorem dX0_waterBehindOrder_50 : decode cX0_waterBehindOrder 50 = .ok (.aload_n 0, 1) := by decide +kernel
theorem dX0_waterBehindOrder_51 : decode cX0_waterBehindOrder 51 = .ok (.getfield 31, 3) := by decide +kernel
theorem dX0_waterBehindOrder_54 : decode cX0_waterBehindOrder 54 = .ok (.invokevirtual 71, 3) := by decide +kernel
theorem dX0_waterBehindOrder_57 : decode cX0_waterBehindOrder 57 = .ok (.ireturn, 1) := by decide +kernel
theorem dX0_goToNextOrder_0 : decode cX0_goToNextOrder 0 = .ok (.aload_n 0, 1) := by decide +kernel
theorem dX0_goToNextOrder_1 : decode cX0_goToNextOrder 1 = .ok (.getfield 18, 3) := by decide +kernel
theorem dX0_goToNextOrder_4 : decode cX0_goToNextOrder 4 = .ok (.getfield 34, 3) := by decide +kernel
theorem dX0_goToNextOrder_7 : decode cX0_goToNextOrder 7 = .ok (.iconst 1, 1) := by decide +kernel
theorem dX0_goToNextOrder_8 : decode cX0_goToNextOrder 8 = .ok (.isub, 1) := by decide +kernel
theorem dX0_goToNextOrder_9 : decode cX0_goToNextOrder 9 = .ok (.istore_n 1, 1) := by decide +kernel
theorem dX0_goToNextOrder_10 : decode cX0_goToNextOrder 10 = .ok (.iload_n 1, 1) := by decide +kernel
theorem dX0_goToNextOrder_11 : decode cX0_goToNextOrder 11 = .ok (.iconst 1, 1) := by decide +kernel
theorem dX0_goToNextOrder_12 : decode cX0_goToNextOrder 12 = .ok (.isub, 1) := by decide +kernel
theorem dX0_goToNextOrder_13 : decode cX0_goToNextOrder 13 = .ok (.istore_n 2, 1) := by decide +kernel
theorem dX0_goToNextOrder_14 : decode cX0_goToNextOrder 14 = .ok (.iload_n 2, 1) := by decide +kernel
theorem dX0_goToNextOrder_15 : decode cX0_goToNextOrder 15 = .ok (.ifCond .lt 26, 3) := by decide +kernel
theorem dX0_goToNextOrder_18 : decode cX0_goToNextOrder 18 = .ok (.aload_n 0, 1) := by decide +kernel
theorem dX0_goToNextOrder_19 : decode cX0_goToNextOrder 19 = .ok (.getfield 9, 3) := by decide +kernel
theorem dX0_goToNextOrder_22 : decode cX0_goToNextOrder 22 = .ok (.iload_n 2, 1) := by decide +kernel
theorem dX0_goToNextOrder_23 : decode cX0_goToNextOrder 23 = .ok (.iaload, 1) := by decide +kernel
theorem dX0_goToNextOrder_24 : decode cX0_goToNextOrder 24 = .ok (.aload_n 0, 1) := by decide +kernel
theorem dX0_goToNextOrder_25 : decode cX0_goToNextOrder 25 = .ok (.getfield 9, 3) := by decide +kernel
theorem dX0_goToNextOrder_28 : decode cX0_goToNextOrder 28 = .ok (.iload_n 2, 1) := by decide +kernel
theorem dX0_goToNextOrder_29 : decode cX0_goToNextOrder 29 = .ok (.iconst 1, 1) := by decide +kernel
theorem dX0_goToNextOrder_30 : decode cX0_goToNextOrder 30 = .ok (.iadd, 1) := by decide +kernel
theorem dX0_goToNextOrder_31 : decode cX0_goToNextOrder 31 = .ok (.iaload, 1) := by decide +kernel
theorem dX0_goToNextOrder_32 : decode cX0_goToNextOrder 32 = .ok (.if_icmp .le 9, 3) := by decide +kernel
theorem dX0_goToNextOrder_35 : decode cX0_goToNextOrder 35 = .ok (.iinc 2 (-1), 3) := by decide +kernel
theorem dX0_goToNextOrder_38 : decode cX0_goToNextOrder 38 = .ok (.goto (-24), 3) := by decide +kernel
theorem dX0_goToNextOrder_41 : decode cX0_goToNextOrder 41 = .ok (.iload_n 2, 1) := by decide +kernel
theorem dX0_goToNextOrder_42 : decode cX0_goToNextOrder 42 = .ok (.ifCond .ge 5, 3) := by decide +kernel
theorem dX0_goToNextOrder_45 : decode cX0_goToNextOrder 45 = .ok (.iconst 0, 1) := by decide +kernel
theorem dX0_goToNextOrder_46 : decode cX0_goToNextOrder 46 = .ok (.ireturn, 1) := by decide +kernel
theorem dX0_goToNextOrder_47 : decode cX0_goToNextOrder 47 = .ok (.iload_n 1, 1) := by decide +kernel
theorem dX0_goToNextOrder_48 : decode cX0_goToNextOrder 48 = .ok (.istore_n 3, 1) := by decide +kernel
theorem dX0_goToNextOrder_49 : decode cX0_goToNextOrder 49 = .ok (.iload_n 3, 1) := by decide +kernel
theorem dX0_goToNextOrder_50 : decode cX0_goToNextOrder 50 = .ok (.iload_n 2, 1) := by decide +kernel
theorem dX0_goToNextOrder_51 : decode cX0_goToNextOrder 51 = .ok (.if_icmp .le 24, 3) := by decide +kernel
theorem dX0_goToNextOrder_54 : decode cX0_goToNextOrder 54 = .ok (.aload_n 0, 1) := by decide +kernel
theorem dX0_goToNextOrder_55 : decode cX0_goToNextOrder 55 = .ok (.getfield 9, 3) := by decide +kernel
theorem dX0_goToNextOrder_58 : decode cX0_goToNextOrder 58 = .ok (.iload_n 3, 1) := by decide +kernel
theorem dX0_goToNextOrder_59 : decode cX0_goToNextOrder 59 = .ok (.iaload, 1) := by decide +kernel
theorem dX0_goToNextOrder_60 : decode cX0_goToNextOrder 60 = .ok (.aload_n 0, 1) := by decide +kernel
theorem dX0_goToNextOrder_61 : decode cX0_goToNextOrder 61 = .ok (.getfield 9, 3) := by decide +kernel
theorem dX0_goToNextOrder_64 : decode cX0_goToNextOrder 64 = .ok (.iload_n 2, 1) := by decide +kernel
theorem dX0_goToNextOrder_65 : decode cX0_goToNextOrder 65 = .ok (.iaload, 1) := by decide +kernel
theorem dX0_goToNextOrder_66 : decode cX0_goToNextOrder 66 = .ok (.if_icmp .ge 9, 3) := by decide +kernel
theorem dX0_goToNextOrder_69 : decode cX0_goToNextOrder 69 = .ok (.iinc 3 (-1), 3) := by decide +kernel
theorem dX0_goToNextOrder_72 : decode cX0_goToNextOrder 72 = .ok (.goto (-23), 3) := by decide +kernel
theorem dX0_goToNextOrder_75 : decode cX0_goToNextOrder 75 = .ok (.aload_n 0, 1) := by decide +kernel
theorem dX0_goToNextOrder_76 : decode cX0_goToNextOrder 76 = .ok (.iload_n 2, 1) := by decide +kernel
theorem dX0_goToNextOrder_77 : decode cX0_goToNextOrder 77 = .ok (.iload_n 3, 1) := by decide +kernel
theorem dX0_goToNextOrder_78 : decode cX0_goToNextOrder 78 = .ok (.invokevirtual 74, 3) := by decide +kernel
theorem dX0_goToNextOrder_81 : decode cX0_goToNextOrder 81 = .ok (.iload_n 2, 1) := by decide +kernel
theorem dX0_goToNextOrder_82 : decode cX0_goToNextOrder 82 = .ok (.iconst 1, 1) := by decide +kernel
theorem dX0_goToNextOrder_83 : decode cX0_goToNextOrder 83 = .ok (.iadd, 1) := by decide +kernel
theorem dX0_goToNextOrder_84 : decode cX0_goToNextOrder 84 = .ok (.istore 4, 2) := by decide +kernel
theorem dX0_goToNextOrder_86 : decode cX0_goToNextOrder 86 = .ok (.iload_n 1, 1) := by decide +kernel
theorem dX0_goToNextOrder_87 : decode cX0_goToNextOrder 87 = .ok (.istore 5, 2) := by decide +kernel
theorem dX0_goToNextOrder_89 : decode cX0_goToNextOrder 89 = .ok (.iload 4, 2) := by decide +kernel
theorem dX0_goToNextOrder_91 : decode cX0_goToNextOrder 91 = .ok (.iload 5, 2) := by decide +kernel
theorem dX0_goToNextOrder_93 : decode cX0_goToNextOrder 93 = .ok (.if_icmp .ge 20, 3) := by decide +kernel
theorem dX0_goToNextOrder_96 : decode cX0_goToNextOrder 96 = .ok (.aload_n 0, 1) := by decide +kernel
theorem dX0_goToNextOrder_97 : decode cX0_goToNextOrder 97 = .ok (.iload 4, 2) := by decide +kernel
theorem dX0_goToNextOrder_99 : decode cX0_goToNextOrder 99 = .ok (.iload 5, 2) := by decide +kernel
theorem dX0_goToNextOrder_101 : decode cX0_goToNextOrder 101 = .ok (.invokevirtual 74, 3) := by decide +kernel
theorem dX0_goToNextOrder_104 : decode cX0_goToNextOrder 104 = .ok (.iinc 4 1, 3) := by decide +kernel
theorem dX0_goToNextOrder_107 : decode cX0_goToNextOrder 107 = .ok (.iinc 5 (-1), 3) := by decide +kernel
theorem dX0_goToNextOrder_110 : decode cX0_goToNextOrder 110 = .ok (.goto (-21), 3) := by decide +kernel
theorem dX0_goToNextOrder_113 : decode cX0_goToNextOrder 113 = .ok (.iconst 1, 1) := by decide +kernel
theorem dX0_goToNextOrder_114 : decode cX0_goToNextOrder 114 = .ok (.ireturn, 1) := by decide +kernel
theorem dX0_swap_0 : decode cX0_swap 0 = .ok (.aload_n 0, 1) := by decide +kernel
theorem dX0_swap_1 : decode cX0_swap 1 = .ok (.getfield 9, 3) := by decide +kernel
theorem dX0_swap_4 : decode cX0_swap 4 = .ok (.iload_n 1, 1) := by decide +kernel
theorem dX0_swap_5 : decode cX0_swap 5 = .ok (.iaload, 1) := by decide +kernel
theorem dX0_swap_6 : decode cX0_swap 6 = .ok (.istore_n 3, 1) := by decide +kernel
theorem dX0_swap_7 : decode cX0_swap 7 = .ok (.aload_n 0, 1) := by decide +kernel
theorem dX0_swap_8 : decode cX0_swap 8 = .ok (.getfield 9, 3) := by decide +kernel
theorem dX0_swap_11 : decode cX0_swap 11 = .ok (.iload_n 1, 1) := by decide +kernel
theorem dX0_swap_12 : decode cX0_swap 12 = .ok (.aload_n 0, 1) := by decide +kernel
theorem dX0_swap_13 : decode cX0_swap 13 = .ok (.getfield 9, 3) := by decide +kernel
theorem dX0_swap_16 : decode cX0_swap 16 = .ok (.iload_n 2, 1) := by decide +kernel
theorem dX0_swap_17 : decode cX0_swap 17 = .ok (.iaload, 1) := by decide +kernel
theorem dX0_swap_18 : decode cX0_swap 18 = .ok (.iastore, 1) := by decide +kernel
theorem dX0_swap_19 : decode cX0_swap 19 = .ok (.aload_n 0, 1) := by decide +kernel
theorem dX0_swap_20 : decode cX0_swap 20 = .ok (.getfield 9, 3) := by decide +kernel
theorem dX0_swap_23 : decode cX0_swap 23 = .ok (.iload_n 2, 1) := by decide +kernel
theorem dX0_swap_24 : decode cX0_swap 24 = .ok (.iload_n 3, 1) := by decide +kernel
theorem dX0_swap_25 : decode cX0_swap 25 = .ok (.iastore, 1) := by decide +kernel
theorem dX0_swap_26 : decode cX0_swap 26 = .ok (.return_, 1) := by decide +kernel
theorem dX1_init_0 : decode cX1_init 0 = .ok (.aload_n 0, 1) := by decide +kernel
theorem dX1_init_1 : decode cX1_init 1 = .ok (.invokespecial 3, 3) := by decide +kernel
theorem dX1_init_4 : decode cX1_init 4 = .ok (.aload_n 0, 1) := by decide +kernel
theorem dX1_init_5 : decode cX1_init 5 = .ok (.iconst 5, 1) := by decide +kernel
theorem dX1_init_6 : decode cX1_init 6 = .ok (.newarray .int, 2) := by decide +kernel
theorem dX1_init_8 : decode cX1_init 8 = .ok (.putfield 9, 3) := by decide +kernel
theorem dX1_init_11 : decode cX1_init 11 = .ok (.aload_n 0, 1) := by decide +kernel
theorem dX1_init_12 : decode cX1_init 12 = .ok (.iconst 5, 1) := by decide +kernel
theorem dX1_init_13 : decode cX1_init 13 = .ok (.newarray .int, 2) := by decide +kernel
theorem dX1_init_15 : decode cX1_init 15 = .ok (.putfield 15, 3) := by decide +kernel
theorem dX1_init_18 : decode cX1_init 18 = .ok (.return_, 1) := by decide +kernel
theorem dX1_readFrom_0 : decode cX1_readFrom 0 = .ok (.aload_n 0, 1) := by decide +kernel
theorem dX1_readFrom_1 : decode cX1_readFrom 1 = .ok (.aload_n 1, 1) := by decide +kernel
theorem dX1_readFrom_2 : decode cX1_readFrom 2 = .ok (.invokevirtual 18, 3) := by decide +kernel
theorem dX1_readFrom_5 : decode cX1_readFrom 5 = .ok (.iconst 5, 1) := by decide +kernel
theorem dX1_readFrom_6 : decode cX1_readFrom 6 = .ok (.invokestatic 24, 3) := by decide +kernel
theorem dX1_readFrom_9 : decode cX1_readFrom 9 = .ok (.putfield 30, 3) := by decide +kernel
theorem dX1_readFrom_12 : decode cX1_readFrom 12 = .ok (.aload_n 0, 1) := by decide +kernel
theorem dX1_readFrom_13 : decode cX1_readFrom 13 = .ok (.aload_n 1, 1) := by decide +kernel
theorem dX1_readFrom_14 : decode cX1_readFrom 14 = .ok (.invokevirtual 33, 3) := by decide +kernel
theorem dX1_readFrom_17 : decode cX1_readFrom 17 = .ok (.putfield 36, 3) := by decide +kernel
theorem dX1_readFrom_20 : decode cX1_readFrom 20 = .ok (.iconst 0, 1) := by decide +kernel
theorem dX1_readFrom_21 : decode cX1_readFrom 21 = .ok (.istore_n 2, 1) := by decide +kernel
theorem dX1_readFrom_22 : decode cX1_readFrom 22 = .ok (.iload_n 2, 1) := by decide +kernel
theorem dX1_readFrom_23 : decode cX1_readFrom 23 = .ok (.aload_n 0, 1) := by decide +kernel
theorem dX1_readFrom_24 : decode cX1_readFrom 24 = .ok (.getfield 30, 3) := by decide +kernel
theorem dX1_readFrom_27 : decode cX1_readFrom 27 = .ok (.if_icmp .ge 31, 3) := by decide +kernel
theorem dX1_readFrom_30 : decode cX1_readFrom 30 = .ok (.aload_n 0, 1) := by decide +kernel
theorem dX1_readFrom_31 : decode cX1_readFrom 31 = .ok (.getfield 9, 3) := by decide +kernel
theorem dX1_readFrom_34 : decode cX1_readFrom 34 = .ok (.iload_n 2, 1) := by decide +kernel
theorem dX1_readFrom_35 : decode cX1_readFrom 35 = .ok (.aload_n 1, 1) := by decide +kernel
theorem dX1_readFrom_36 : decode cX1_readFrom 36 = .ok (.iload_n 2, 1) := by decide +kernel
theorem dX1_readFrom_37 : decode cX1_readFrom 37 = .ok (.invokevirtual 39, 3) := by decide +kernel
theorem dX1_readFrom_40 : decode cX1_readFrom 40 = .ok (.iastore, 1) := by decide +kernel
theorem dX1_readFrom_41 : decode cX1_readFrom 41 = .ok (.aload_n 0, 1) := by decide +kernel
theorem dX1_readFrom_42 : decode cX1_readFrom 42 = .ok (.getfield 15, 3) := by decide +kernel
theorem dX1_readFrom_45 : decode cX1_readFrom 45 = .ok (.iload_n 2, 1) := by decide +kernel
theorem dX1_readFrom_46 : decode cX1_readFrom 46 = .ok (.aload_n 1, 1) := by decide +kernel
theorem dX1_readFrom_47 : decode cX1_readFrom 47 = .ok (.iload_n 2, 1) := by decide +kernel
theorem dX1_readFrom_48 : decode cX1_readFrom 48 = .ok (.invokevirtual 43, 3) := by decide +kernel
theorem dX1_readFrom_51 : decode cX1_readFrom 51 = .ok (.iastore, 1) := by decide +kernel
theorem dX1_readFrom_52 : decode cX1_readFrom 52 = .ok (.iinc 2 1, 3) := by decide +kernel
theorem dX1_readFrom_55 : decode cX1_readFrom 55 = .ok (.goto (-33), 3) := by decide +kernel
theorem dX1_readFrom_58 : decode cX1_readFrom 58 = .ok (.return_, 1) := by decide +kernel
theorem dX1_isRead_0 : decode cX1_isRead 0 = .ok (.aload_n 0, 1) := by decide +kernel
theorem dX1_isRead_1 : decode cX1_isRead 1 = .ok (.getfield 30, 3) := by decide +kernel
theorem dX1_isRead_4 : decode cX1_isRead 4 = .ok (.ifCond .le 7, 3) := by decide +kernel
theorem dX1_isRead_7 : decode cX1_isRead 7 = .ok (.iconst 1, 1) := by decide +kernel
theorem dX1_isRead_8 : decode cX1_isRead 8 = .ok (.goto 4, 3) := by decide +kernel
theorem dX1_isRead_11 : decode cX1_isRead 11 = .ok (.iconst 0, 1) := by decide +kernel
theorem dX1_isRead_12 : decode cX1_isRead 12 = .ok (.ireturn, 1) := by decide +kernel
theorem dX1_hasRiver_0 : decode cX1_hasRiver 0 = .ok (.iload_n 1, 1) := by decide +kernel
theorem dX1_hasRiver_1 : decode cX1_hasRiver 1 = .ok (.ifCond .lt 15, 3) := by decide +kernel
theorem dX1_hasRiver_4 : decode cX1_hasRiver 4 = .ok (.iload_n 1, 1) := by decide +kernel
theorem dX1_hasRiver_5 : decode cX1_hasRiver 5 = .ok (.aload_n 0, 1) := by decide +kernel
theorem dX1_hasRiver_6 : decode cX1_hasRiver 6 = .ok (.getfield 30, 3) := by decide +kernel
theorem dX1_hasRiver_9 : decode cX1_hasRiver 9 = .ok (.if_icmp .ge 7, 3) := by decide +kernel
theorem dX1_hasRiver_12 : decode cX1_hasRiver 12 = .ok (.iconst 1, 1) := by decide +kernel
theorem dX1_hasRiver_13 : decode cX1_hasRiver 13 = .ok (.goto 4, 3) := by decide +kernel
theorem dX1_hasRiver_16 : decode cX1_hasRiver 16 = .ok (.iconst 0, 1) := by decide +kernel
theorem dX1_hasRiver_17 : decode cX1_hasRiver 17 = .ok (.ireturn, 1) := by decide +kernel
theorem dX2_init_0 : decode cX2_init 0 = .ok (.aload_n 0, 1) := by decide +kernel
theorem dX2_init_1 : decode cX2_init 1 = .ok (.invokespecial 1, 3) := by decide +kernel
theorem dX2_init_4 : decode cX2_init 4 = .ok (.return_, 1) := by decide +kernel
theorem dX2_next_0 : decode cX2_next 0 = .ok (.aload_n 0, 1) := by decide +kernel
theorem dX2_next_1 : decode cX2_next 1 = .ok (.ldc2_w 7, 3) := by decide +kernel
theorem dX2_next_4 : decode cX2_next 4 = .ok (.aload_n 0, 1) := by decide +kernel
theorem dX2_next_5 : decode cX2_next 5 = .ok (.getfield 9, 3) := by decide +kernel
theorem dX2_next_8 : decode cX2_next 8 = .ok (.i2l, 1) := by decide +kernel
theorem dX2_next_9 : decode cX2_next 9 = .ok (.lmul, 1) := by decide +kernel
theorem dX2_next_10 : decode cX2_next 10 = .ok (.ldc2_w 15, 3) := by decide +kernel
theorem dX2_next_13 : decode cX2_next 13 = .ok (.ladd, 1) := by decide +kernel
theorem dX2_next_14 : decode cX2_next 14 = .ok (.ldc2_w 17, 3) := by decide +kernel
theorem dX2_next_17 : decode cX2_next 17 = .ok (.land, 1) := by decide +kernel
theorem dX2_next_18 : decode cX2_next 18 = .ok (.l2i, 1) := by decide +kernel
theorem dX2_next_19 : decode cX2_next 19 = .ok (.putfield 9, 3) := by decide +kernel
theorem dX2_next_22 : decode cX2_next 22 = .ok (.iload_n 1, 1) := by decide +kernel
theorem dX2_next_23 : decode cX2_next 23 = .ok (.ifCond .le 15, 3) := by decide +kernel
theorem dX2_next_26 : decode cX2_next 26 = .ok (.aload_n 0, 1) := by decide +kernel
theorem dX2_next_27 : decode cX2_next 27 = .ok (.getfield 9, 3) := by decide +kernel
theorem dX2_next_30 : decode cX2_next 30 = .ok (.bipush 16, 2) := by decide +kernel
theorem dX2_next_32 : decode cX2_next 32 = .ok (.ishr, 1) := by decide +kernel
theorem dX2_next_33 : decode cX2_next 33 = .ok (.iload_n 1, 1) := by decide +kernel
theorem dX2_next_34 : decode cX2_next 34 = .ok (.irem, 1) := by decide +kernel
theorem dX2_next_35 : decode cX2_next 35 = .ok (.goto 4, 3) := by decide +kernel
theorem dX2_next_38 : decode cX2_next 38 = .ok (.iconst 0, 1) := by decide +kernel
theorem dX2_next_39 : decode cX2_next 39 = .ok (.ireturn, 1) := by decide +kernel
theorem dX3_init_0 : decode cX3_init 0 = .ok (.aload_n 0, 1) := by decide +kernel
theorem dX3_init_1 : decode cX3_init 1 = .ok (.invokespecial 3, 3) := by decide +kernel
theorem dX3_init_4 : decode cX3_init 4 = .ok (.aload_n 0, 1) := by decide +kernel
theorem dX3_init_5 : decode cX3_init 5 = .ok (.new 9, 3) := by decide +kernel
theorem dX3_init_8 : decode cX3_init 8 = .ok (.dup, 1) := by decide +kernel
theorem dX3_init_9 : decode cX3_init 9 = .ok (.invokespecial 11, 3) := by decide +kernel
theorem dX3_init_12 : decode cX3_init 12 = .ok (.putfield 12, 3) := by decide +kernel
theorem dX3_init_15 : decode cX3_init 15 = .ok (.aload_n 0, 1) := by decide +kernel
theorem dX3_init_16 : decode cX3_init 16 = .ok (.bipush 13, 2) := by decide +kernel
theorem dX3_init_18 : decode cX3_init 18 = .ok (.newarray .int, 2) := by decide +kernel
theorem dX3_init_20 : decode cX3_init 20 = .ok (.putfield 18, 3) := by decide +kernel
theorem dX3_init_23 : decode cX3_init 23 = .ok (.aload_n 0, 1) := by decide +kernel
theorem dX3_init_24 : decode cX3_init 24 = .ok (.bipush 13, 2) := by decide +kernel
theorem dX3_init_26 : decode cX3_init 26 = .ok (.newarray .int, 2) := by decide +kernel
theorem dX3_init_28 : decode cX3_init 28 = .ok (.putfield 22, 3) := by decide +kernel
theorem dX3_init_31 : decode cX3_init 31 = .ok (.aload_n 0, 1) := by decide +kernel
theorem dX3_init_32 : decode cX3_init 32 = .ok (.aload_n 1, 1) := by decide +kernel
theorem dX3_init_33 : decode cX3_init 33 = .ok (.putfield 25, 3) := by decide +kernel
theorem dX3_init_36 : decode cX3_init 36 = .ok (.aload_n 0, 1) := by decide +kernel
theorem dX3_init_37 : decode cX3_init 37 = .ok (.aload_n 2, 1) := by decide +kernel
theorem dX3_init_38 : decode cX3_init 38 = .ok (.putfield 29, 3) := by decide +kernel
theorem dX3_init_41 : decode cX3_init 41 = .ok (.aload_n 0, 1) := by decide +kernel
theorem dX3_init_42 : decode cX3_init 42 = .ok (.aload_n 3, 1) := by decide +kernel
theorem dX3_init_43 : decode cX3_init 43 = .ok (.putfield 33, 3) := by decide +kernel
theorem dX3_init_46 : decode cX3_init 46 = .ok (.aload_n 0, 1) := by decide +kernel
theorem dX3_init_47 : decode cX3_init 47 = .ok (.new 37, 3) := by decide +kernel
theorem dX3_init_50 : decode cX3_init 50 = .ok (.dup, 1) := by decide +kernel
theorem dX3_init_51 : decode cX3_init 51 = .ok (.aload_n 1, 1) := by decide +kernel
theorem dX3_init_52 : decode cX3_init 52 = .ok (.invokespecial 39, 3) := by decide +kernel
theorem dX3_init_55 : decode cX3_init 55 = .ok (.putfield 42, 3) := by decide +kernel
theorem dX3_init_58 : decode cX3_init 58 = .ok (.return_, 1) := by decide +kernel
theorem dX3_waitsOf_0 : decode cX3_waitsOf 0 = .ok (.aload_n 0, 1) := by decide +kernel
theorem dX3_waitsOf_1 : decode cX3_waitsOf 1 = .ok (.getfield 42, 3) := by decide +kernel
theorem dX3_waitsOf_4 : decode cX3_waitsOf 4 = .ok (.aload_n 0, 1) := by decide +kernel
theorem dX3_waitsOf_5 : decode cX3_waitsOf 5 = .ok (.getfield 29, 3) := by decide +kernel
theorem dX3_waitsOf_8 : decode cX3_waitsOf 8 = .ok (.invokevirtual 45, 3) := by decide +kernel
theorem dX3_waitsOf_11 : decode cX3_waitsOf 11 = .ok (.iconst 1, 1) := by decide +kernel
theorem dX3_waitsOf_12 : decode cX3_waitsOf 12 = .ok (.istore_n 2, 1) := by decide +kernel
theorem dX3_waitsOf_13 : decode cX3_waitsOf 13 = .ok (.iload_n 2, 1) := by decide +kernel
theorem dX3_waitsOf_14 : decode cX3_waitsOf 14 = .ok (.bipush 60, 2) := by decide +kernel
theorem dX3_waitsOf_16 : decode cX3_waitsOf 16 = .ok (.if_icmp .gt 30, 3) := by decide +kernel
theorem dX3_waitsOf_19 : decode cX3_waitsOf 19 = .ok (.aload_n 0, 1) := by decide +kernel
theorem dX3_waitsOf_20 : decode cX3_waitsOf 20 = .ok (.getfield 42, 3) := by decide +kernel
theorem dX3_waitsOf_23 : decode cX3_waitsOf 23 = .ok (.invokevirtual 49, 3) := by decide +kernel
theorem dX3_waitsOf_26 : decode cX3_waitsOf 26 = .ok (.pop, 1) := by decide +kernel
theorem dX3_waitsOf_27 : decode cX3_waitsOf 27 = .ok (.aload_n 0, 1) := by decide +kernel
theorem dX3_waitsOf_28 : decode cX3_waitsOf 28 = .ok (.getfield 42, 3) := by decide +kernel
theorem dX3_waitsOf_31 : decode cX3_waitsOf 31 = .ok (.getfield 53, 3) := by decide +kernel
theorem dX3_waitsOf_34 : decode cX3_waitsOf 34 = .ok (.iload_n 1, 1) := by decide +kernel
theorem dX3_waitsOf_35 : decode cX3_waitsOf 35 = .ok (.if_icmp .ne 5, 3) := by decide +kernel
theorem dX3_waitsOf_38 : decode cX3_waitsOf 38 = .ok (.iload_n 2, 1) := by decide +kernel
theorem dX3_waitsOf_39 : decode cX3_waitsOf 39 = .ok (.ireturn, 1) := by decide +kernel
theorem dX3_waitsOf_40 : decode cX3_waitsOf 40 = .ok (.iinc 2 1, 3) := by decide +kernel
theorem dX3_waitsOf_43 : decode cX3_waitsOf 43 = .ok (.goto (-30), 3) := by decide +kernel
theorem dX3_waitsOf_46 : decode cX3_waitsOf 46 = .ok (.iconst (-1), 1) := by decide +kernel
theorem dX3_waitsOf_47 : decode cX3_waitsOf 47 = .ok (.ireturn, 1) := by decide +kernel
theorem dX3_widestHour_0 : decode cX3_widestHour 0 = .ok (.aload_n 0, 1) := by decide +kernel
theorem dX3_widestHour_1 : decode cX3_widestHour 1 = .ok (.getfield 42, 3) := by decide +kernel
theorem dX3_widestHour_4 : decode cX3_widestHour 4 = .ok (.aload_n 0, 1) := by decide +kernel
theorem dX3_widestHour_5 : decode cX3_widestHour 5 = .ok (.getfield 29, 3) := by decide +kernel
theorem dX3_widestHour_8 : decode cX3_widestHour 8 = .ok (.invokevirtual 45, 3) := by decide +kernel
theorem dX3_widestHour_11 : decode cX3_widestHour 11 = .ok (.iconst (-1), 1) := by decide +kernel
theorem dX3_widestHour_12 : decode cX3_widestHour 12 = .ok (.istore_n 2, 1) := by decide +kernel
theorem dX3_widestHour_13 : decode cX3_widestHour 13 = .ok (.iconst (-1), 1) := by decide +kernel
theorem dX3_widestHour_14 : decode cX3_widestHour 14 = .ok (.istore_n 3, 1) := by decide +kernel
theorem dX3_widestHour_15 : decode cX3_widestHour 15 = .ok (.iconst 1, 1) := by decide +kernel
theorem dX3_widestHour_16 : decode cX3_widestHour 16 = .ok (.istore 4, 2) := by decide +kernel
theorem dX3_widestHour_18 : decode cX3_widestHour 18 = .ok (.iload 4, 2) := by decide +kernel
theorem dX3_widestHour_20 : decode cX3_widestHour 20 = .ok (.iload_n 1, 1) := by decide +kernel
theorem dX3_widestHour_21 : decode cX3_widestHour 21 = .ok (.if_icmp .gt 38, 3) := by decide +kernel
theorem dX3_widestHour_24 : decode cX3_widestHour 24 = .ok (.aload_n 0, 1) := by decide +kernel
theorem dX3_widestHour_25 : decode cX3_widestHour 25 = .ok (.getfield 42, 3) := by decide +kernel
theorem dX3_widestHour_28 : decode cX3_widestHour 28 = .ok (.invokevirtual 49, 3) := by decide +kernel
theorem dX3_widestHour_31 : decode cX3_widestHour 31 = .ok (.pop, 1) := by decide +kernel
theorem dX3_widestHour_32 : decode cX3_widestHour 32 = .ok (.aload_n 0, 1) := by decide +kernel
theorem dX3_widestHour_33 : decode cX3_widestHour 33 = .ok (.getfield 42, 3) := by decide +kernel
theorem dX3_widestHour_36 : decode cX3_widestHour 36 = .ok (.invokevirtual 56, 3) := by decide +kernel
theorem dX3_widestHour_39 : decode cX3_widestHour 39 = .ok (.istore 5, 2) := by decide +kernel
theorem dX3_widestHour_41 : decode cX3_widestHour 41 = .ok (.iload 5, 2) := by decide +kernel
theorem dX3_widestHour_43 : decode cX3_widestHour 43 = .ok (.iload_n 3, 1) := by decide +kernel
theorem dX3_widestHour_44 : decode cX3_widestHour 44 = .ok (.if_icmp .le 9, 3) := by decide +kernel
theorem dX3_widestHour_47 : decode cX3_widestHour 47 = .ok (.iload 5, 2) := by decide +kernel
theorem dX3_widestHour_49 : decode cX3_widestHour 49 = .ok (.istore_n 3, 1) := by decide +kernel
theorem dX3_widestHour_50 : decode cX3_widestHour 50 = .ok (.iload 4, 2) := by decide +kernel
theorem dX3_widestHour_52 : decode cX3_widestHour 52 = .ok (.istore_n 2, 1) := by decide +kernel
theorem dX3_widestHour_53 : decode cX3_widestHour 53 = .ok (.iinc 4 1, 3) := by decide +kernel
theorem dX3_widestHour_56 : decode cX3_widestHour 56 = .ok (.goto (-38), 3) := by decide +kernel
theorem dX3_widestHour_59 : decode cX3_widestHour 59 = .ok (.iload_n 2, 1) := by decide +kernel
theorem dX3_widestHour_60 : decode cX3_widestHour 60 = .ok (.ireturn, 1) := by decide +kernel
theorem dX3_waterBehind_0 : decode cX3_waterBehind 0 = .ok (.aload_n 0, 1) := by decide +kernel
theorem dX3_waterBehind_1 : decode cX3_waterBehind 1 = .ok (.getfield 42, 3) := by decide +kernel
theorem dX3_waterBehind_4 : decode cX3_waterBehind 4 = .ok (.aload_n 0, 1) := by decide +kernel
theorem dX3_waterBehind_5 : decode cX3_waterBehind 5 = .ok (.getfield 29, 3) := by decide +kernel
theorem dX3_waterBehind_8 : decode cX3_waterBehind 8 = .ok (.invokevirtual 45, 3) := by decide +kernel
theorem dX3_waterBehind_11 : decode cX3_waterBehind 11 = .ok (.iconst 1, 1) := by decide +kernel
theorem dX3_waterBehind_12 : decode cX3_waterBehind 12 = .ok (.istore_n 2, 1) := by decide +kernel
theorem dX3_waterBehind_13 : decode cX3_waterBehind 13 = .ok (.iload_n 2, 1) := by decide +kernel
theorem dX3_waterBehind_14 : decode cX3_waterBehind 14 = .ok (.iload_n 1, 1) := by decide +kernel
theorem dX3_waterBehind_15 : decode cX3_waterBehind 15 = .ok (.if_icmp .gt 17, 3) := by decide +kernel
theorem dX3_waterBehind_18 : decode cX3_waterBehind 18 = .ok (.aload_n 0, 1) := by decide +kernel
theorem dX3_waterBehind_19 : decode cX3_waterBehind 19 = .ok (.getfield 42, 3) := by decide +kernel
theorem dX3_waterBehind_22 : decode cX3_waterBehind 22 = .ok (.invokevirtual 49, 3) := by decide +kernel
theorem dX3_waterBehind_25 : decode cX3_waterBehind 25 = .ok (.pop, 1) := by decide +kernel
theorem dX3_waterBehind_26 : decode cX3_waterBehind 26 = .ok (.iinc 2 1, 3) := by decide +kernel
theorem dX3_waterBehind_29 : decode cX3_waterBehind 29 = .ok (.goto (-16), 3) := by decide +kernel
theorem dX3_waterBehind_32 : decode cX3_waterBehind 32 = .ok (.aload_n 0, 1) := by decide +kernel
theorem dX3_waterBehind_33 : decode cX3_waterBehind 33 = .ok (.getfield 42, 3) := by decide +kernel
theorem dX3_waterBehind_36 : decode cX3_waterBehind 36 = .ok (.invokevirtual 56, 3) := by decide +kernel
theorem dX3_waterBehind_39 : decode cX3_waterBehind 39 = .ok (.ireturn, 1) := by decide +kernel
theorem dX3_possibleWaters_0 : decode cX3_possibleWaters 0 = .ok (.iconst 0, 1) := by decide +kernel
theorem dX3_possibleWaters_1 : decode cX3_possibleWaters 1 = .ok (.istore_n 2, 1) := by decide +kernel
theorem dX3_possibleWaters_2 : decode cX3_possibleWaters 2 = .ok (.iconst 0, 1) := by decide +kernel
theorem dX3_possibleWaters_3 : decode cX3_possibleWaters 3 = .ok (.istore_n 3, 1) := by decide +kernel
theorem dX3_possibleWaters_4 : decode cX3_possibleWaters 4 = .ok (.iload_n 3, 1) := by decide +kernel
theorem dX3_possibleWaters_5 : decode cX3_possibleWaters 5 = .ok (.bipush 9, 2) := by decide +kernel
theorem dX3_possibleWaters_7 : decode cX3_possibleWaters 7 = .ok (.if_icmp .gt 24, 3) := by decide +kernel
theorem dX3_possibleWaters_10 : decode cX3_possibleWaters 10 = .ok (.aload_n 0, 1) := by decide +kernel
theorem dX3_possibleWaters_11 : decode cX3_possibleWaters 11 = .ok (.iload_n 1, 1) := by decide +kernel
theorem dX3_possibleWaters_12 : decode cX3_possibleWaters 12 = .ok (.iload_n 3, 1) := by decide +kernel
theorem dX3_possibleWaters_13 : decode cX3_possibleWaters 13 = .ok (.invokevirtual 59, 3) := by decide +kernel
theorem dX3_possibleWaters_16 : decode cX3_possibleWaters 16 = .ok (.ifCond .eq 9, 3) := by decide +kernel
theorem dX3_possibleWaters_19 : decode cX3_possibleWaters 19 = .ok (.iload_n 2, 1) := by decide +kernel
theorem dX3_possibleWaters_20 : decode cX3_possibleWaters 20 = .ok (.iconst 1, 1) := by decide +kernel
theorem dX3_possibleWaters_21 : decode cX3_possibleWaters 21 = .ok (.iload_n 3, 1) := by decide +kernel
theorem dX3_possibleWaters_22 : decode cX3_possibleWaters 22 = .ok (.ishl, 1) := by decide +kernel
theorem dX3_possibleWaters_23 : decode cX3_possibleWaters 23 = .ok (.ior, 1) := by decide +kernel
theorem dX3_possibleWaters_24 : decode cX3_possibleWaters 24 = .ok (.istore_n 2, 1) := by decide +kernel
theorem dX3_possibleWaters_25 : decode cX3_possibleWaters 25 = .ok (.iinc 3 1, 3) := by decide +kernel
theorem dX3_possibleWaters_28 : decode cX3_possibleWaters 28 = .ok (.goto (-24), 3) := by decide +kernel
theorem dX3_possibleWaters_31 : decode cX3_possibleWaters 31 = .ok (.iload_n 2, 1) := by decide +kernel
theorem dX3_possibleWaters_32 : decode cX3_possibleWaters 32 = .ok (.ireturn, 1) := by decide +kernel
theorem dX3_hourToLook_0 : decode cX3_hourToLook 0 = .ok (.iconst 0, 1) := by decide +kernel
theorem dX3_hourToLook_1 : decode cX3_hourToLook 1 = .ok (.istore_n 2, 1) := by decide +kernel
theorem dX3_hourToLook_2 : decode cX3_hourToLook 2 = .ok (.aload_n 0, 1) := by decide +kernel
theorem dX3_hourToLook_3 : decode cX3_hourToLook 3 = .ok (.getfield 22, 3) := by decide +kernel
theorem dX3_hourToLook_6 : decode cX3_hourToLook 6 = .ok (.iconst 0, 1) := by decide +kernel
theorem dX3_hourToLook_7 : decode cX3_hourToLook 7 = .ok (.invokestatic 63, 3) := by decide +kernel
theorem dX3_hourToLook_10 : decode cX3_hourToLook 10 = .ok (.iconst 0, 1) := by decide +kernel
theorem dX3_hourToLook_11 : decode cX3_hourToLook 11 = .ok (.istore_n 3, 1) := by decide +kernel
theorem dX3_hourToLook_12 : decode cX3_hourToLook 12 = .ok (.iload_n 3, 1) := by decide +kernel
theorem dX3_hourToLook_13 : decode cX3_hourToLook 13 = .ok (.bipush 9, 2) := by decide +kernel
theorem dX3_hourToLook_15 : decode cX3_hourToLook 15 = .ok (.if_icmp .gt 26, 3) := by decide +kernel
theorem dX3_hourToLook_18 : decode cX3_hourToLook 18 = .ok (.aload_n 0, 1) := by decide +kernel
theorem dX3_hourToLook_19 : decode cX3_hourToLook 19 = .ok (.iload_n 1, 1) := by decide +kernel
theorem dX3_hourToLook_20 : decode cX3_hourToLook 20 = .ok (.iload_n 3, 1) := by decide +kernel
theorem dX3_hourToLook_21 : decode cX3_hourToLook 21 = .ok (.invokevirtual 59, 3) := by decide +kernel
theorem dX3_hourToLook_24 : decode cX3_hourToLook 24 = .ok (.ifCond .eq 11, 3) := by decide +kernel
theorem dX3_hourToLook_27 : decode cX3_hourToLook 27 = .ok (.iinc 2 1, 3) := by decide +kernel
theorem dX3_hourToLook_30 : decode cX3_hourToLook 30 = .ok (.aload_n 0, 1) := by decide +kernel
theorem dX3_hourToLook_31 : decode cX3_hourToLook 31 = .ok (.iload_n 1, 1) := by decide +kernel
theorem dX3_hourToLook_32 : decode cX3_hourToLook 32 = .ok (.invokevirtual 69, 3) := by decide +kernel
theorem dX3_hourToLook_35 : decode cX3_hourToLook 35 = .ok (.iinc 3 1, 3) := by decide +kernel
theorem dX3_hourToLook_38 : decode cX3_hourToLook 38 = .ok (.goto (-26), 3) := by decide +kernel
theorem dX3_hourToLook_41 : decode cX3_hourToLook 41 = .ok (.iload_n 2, 1) := by decide +kernel
theorem dX3_hourToLook_42 : decode cX3_hourToLook 42 = .ok (.ifCond .le 11, 3) := by decide +kernel
theorem dX3_hourToLook_45 : decode cX3_hourToLook 45 = .ok (.aload_n 0, 1) := by decide +kernel
theorem dX3_hourToLook_46 : decode cX3_hourToLook 46 = .ok (.iload_n 2, 1) := by decide +kernel
theorem dX3_hourToLook_47 : decode cX3_hourToLook 47 = .ok (.invokevirtual 73, 3) := by decide +kernel
theorem dX3_hourToLook_50 : decode cX3_hourToLook 50 = .ok (.goto 4, 3) := by decide +kernel
theorem dX3_hourToLook_53 : decode cX3_hourToLook 53 = .ok (.iconst (-1), 1) := by decide +kernel
theorem dX3_hourToLook_54 : decode cX3_hourToLook 54 = .ok (.ireturn, 1) := by decide +kernel
theorem dX3_passSeasons_0 : decode cX3_passSeasons 0 = .ok (.aload_n 0, 1) := by decide +kernel
theorem dX3_passSeasons_1 : decode cX3_passSeasons 1 = .ok (.getfield 42, 3) := by decide +kernel
theorem dX3_passSeasons_4 : decode cX3_passSeasons 4 = .ok (.aload_n 0, 1) := by decide +kernel
theorem dX3_passSeasons_5 : decode cX3_passSeasons 5 = .ok (.getfield 29, 3) := by decide +kernel
theorem dX3_passSeasons_8 : decode cX3_passSeasons 8 = .ok (.invokevirtual 45, 3) := by decide +kernel
theorem dX3_passSeasons_11 : decode cX3_passSeasons 11 = .ok (.aload_n 0, 1) := by decide +kernel
theorem dX3_passSeasons_12 : decode cX3_passSeasons 12 = .ok (.getfield 12, 3) := by decide +kernel
theorem dX3_passSeasons_15 : decode cX3_passSeasons 15 = .ok (.iload_n 2, 1) := by decide +kernel
theorem dX3_passSeasons_16 : decode cX3_passSeasons 16 = .ok (.putfield 77, 3) := by decide +kernel
theorem dX3_passSeasons_19 : decode cX3_passSeasons 19 = .ok (.iconst 0, 1) := by decide +kernel
theorem dX3_passSeasons_20 : decode cX3_passSeasons 20 = .ok (.istore_n 3, 1) := by decide +kernel
theorem dX3_passSeasons_21 : decode cX3_passSeasons 21 = .ok (.iconst 1, 1) := by decide +kernel
theorem dX3_passSeasons_22 : decode cX3_passSeasons 22 = .ok (.istore 4, 2) := by decide +kernel
theorem dX3_passSeasons_24 : decode cX3_passSeasons 24 = .ok (.iload 4, 2) := by decide +kernel
theorem dX3_passSeasons_26 : decode cX3_passSeasons 26 = .ok (.iload_n 1, 1) := by decide +kernel
theorem dX3_passSeasons_27 : decode cX3_passSeasons 27 = .ok (.if_icmp .gt 57, 3) := by decide +kernel
theorem dX3_passSeasons_30 : decode cX3_passSeasons 30 = .ok (.aload_n 0, 1) := by decide +kernel
theorem dX3_passSeasons_31 : decode cX3_passSeasons 31 = .ok (.getfield 12, 3) := by decide +kernel
theorem dX3_passSeasons_34 : decode cX3_passSeasons 34 = .ok (.iconst 4, 1) := by decide +kernel
theorem dX3_passSeasons_35 : decode cX3_passSeasons 35 = .ok (.invokevirtual 80, 3) := by decide +kernel
theorem dX3_passSeasons_38 : decode cX3_passSeasons 38 = .ok (.istore 5, 2) := by decide +kernel
theorem dX3_passSeasons_40 : decode cX3_passSeasons 40 = .ok (.aload_n 0, 1) := by decide +kernel
theorem dX3_passSeasons_41 : decode cX3_passSeasons 41 = .ok (.getfield 12, 3) := by decide +kernel
theorem dX3_passSeasons_44 : decode cX3_passSeasons 44 = .ok (.aload_n 0, 1) := by decide +kernel
theorem dX3_passSeasons_45 : decode cX3_passSeasons 45 = .ok (.getfield 25, 3) := by decide +kernel
theorem dX3_passSeasons_48 : decode cX3_passSeasons 48 = .ok (.getfield 83, 3) := by decide +kernel
theorem dX3_passSeasons_51 : decode cX3_passSeasons 51 = .ok (.invokevirtual 80, 3) := by decide +kernel
theorem dX3_passSeasons_54 : decode cX3_passSeasons 54 = .ok (.istore 6, 2) := by decide +kernel
theorem dX3_passSeasons_56 : decode cX3_passSeasons 56 = .ok (.aload_n 0, 1) := by decide +kernel
theorem dX3_passSeasons_57 : decode cX3_passSeasons 57 = .ok (.getfield 42, 3) := by decide +kernel
theorem dX3_passSeasons_60 : decode cX3_passSeasons 60 = .ok (.iload 6, 2) := by decide +kernel
theorem dX3_passSeasons_62 : decode cX3_passSeasons 62 = .ok (.iload 5, 2) := by decide +kernel
theorem dX3_passSeasons_64 : decode cX3_passSeasons 64 = .ok (.invokevirtual 88, 3) := by decide +kernel
theorem dX3_passSeasons_67 : decode cX3_passSeasons 67 = .ok (.pop, 1) := by decide +kernel
theorem dX3_passSeasons_68 : decode cX3_passSeasons 68 = .ok (.iload_n 3, 1) := by decide +kernel
theorem dX3_passSeasons_69 : decode cX3_passSeasons 69 = .ok (.aload_n 0, 1) := by decide +kernel
theorem dX3_passSeasons_70 : decode cX3_passSeasons 70 = .ok (.getfield 42, 3) := by decide +kernel
theorem dX3_passSeasons_73 : decode cX3_passSeasons 73 = .ok (.invokevirtual 49, 3) := by decide +kernel
theorem dX3_passSeasons_76 : decode cX3_passSeasons 76 = .ok (.iadd, 1) := by decide +kernel
theorem dX3_passSeasons_77 : decode cX3_passSeasons 77 = .ok (.istore_n 3, 1) := by decide +kernel
theorem dX3_passSeasons_78 : decode cX3_passSeasons 78 = .ok (.iinc 4 1, 3) := by decide +kernel
theorem dX3_passSeasons_81 : decode cX3_passSeasons 81 = .ok (.goto (-57), 3) := by decide +kernel
theorem dX3_passSeasons_84 : decode cX3_passSeasons 84 = .ok (.iload_n 3, 1) := by decide +kernel
theorem dX3_passSeasons_85 : decode cX3_passSeasons 85 = .ok (.ireturn, 1) := by decide +kernel
theorem dX3_addTakes_0 : decode cX3_addTakes 0 = .ok (.iconst 1, 1) := by decide +kernel
theorem dX3_addTakes_1 : decode cX3_addTakes 1 = .ok (.istore_n 2, 1) := by decide +kernel
theorem dX3_addTakes_2 : decode cX3_addTakes 2 = .ok (.iload_n 2, 1) := by decide +kernel
theorem dX3_addTakes_3 : decode cX3_addTakes 3 = .ok (.bipush 12, 2) := by decide +kernel
theorem dX3_addTakes_5 : decode cX3_addTakes 5 = .ok (.if_icmp .gt 29, 3) := by decide +kernel
theorem dX3_addTakes_8 : decode cX3_addTakes 8 = .ok (.aload_n 0, 1) := by decide +kernel
theorem dX3_addTakes_9 : decode cX3_addTakes 9 = .ok (.getfield 18, 3) := by decide +kernel
theorem dX3_addTakes_12 : decode cX3_addTakes 12 = .ok (.iload_n 2, 1) := by decide +kernel
theorem dX3_addTakes_13 : decode cX3_addTakes 13 = .ok (.iaload, 1) := by decide +kernel
theorem dX3_addTakes_14 : decode cX3_addTakes 14 = .ok (.iload_n 1, 1) := by decide +kernel
theorem dX3_addTakes_15 : decode cX3_addTakes 15 = .ok (.if_icmp .ne 13, 3) := by decide +kernel
theorem dX3_addTakes_18 : decode cX3_addTakes 18 = .ok (.aload_n 0, 1) := by decide +kernel
theorem dX3_addTakes_19 : decode cX3_addTakes 19 = .ok (.getfield 22, 3) := by decide +kernel
theorem dX3_addTakes_22 : decode cX3_addTakes 22 = .ok (.iload_n 2, 1) := by decide +kernel
theorem dX3_addTakes_23 : decode cX3_addTakes 23 = .ok (.dup2, 1) := by decide +kernel
theorem dX3_addTakes_24 : decode cX3_addTakes 24 = .ok (.iaload, 1) := by decide +kernel
theorem dX3_addTakes_25 : decode cX3_addTakes 25 = .ok (.iconst 1, 1) := by decide +kernel
theorem dX3_addTakes_26 : decode cX3_addTakes 26 = .ok (.iadd, 1) := by decide +kernel
theorem dX3_addTakes_27 : decode cX3_addTakes 27 = .ok (.iastore, 1) := by decide +kernel
theorem dX3_addTakes_28 : decode cX3_addTakes 28 = .ok (.iinc 2 1, 3) := by decide +kernel
theorem dX3_addTakes_31 : decode cX3_addTakes 31 = .ok (.goto (-29), 3) := by decide +kernel
theorem dX3_addTakes_34 : decode cX3_addTakes 34 = .ok (.return_, 1) := by decide +kernel
theorem dX3_hourThatParts_0 : decode cX3_hourThatParts 0 = .ok (.iconst (-1), 1) := by decide +kernel
theorem dX3_hourThatParts_1 : decode cX3_hourThatParts 1 = .ok (.istore_n 2, 1) := by decide +kernel
theorem dX3_hourThatParts_2 : decode cX3_hourThatParts 2 = .ok (.iload_n 1, 1) := by decide +kernel
theorem dX3_hourThatParts_3 : decode cX3_hourThatParts 3 = .ok (.iconst 1, 1) := by decide +kernel
theorem dX3_hourThatParts_4 : decode cX3_hourThatParts 4 = .ok (.iadd, 1) := by decide +kernel
theorem dX3_hourThatParts_5 : decode cX3_hourThatParts 5 = .ok (.istore_n 3, 1) := by decide +kernel
theorem dX3_hourThatParts_6 : decode cX3_hourThatParts 6 = .ok (.iconst 1, 1) := by decide +kernel
theorem dX3_hourThatParts_7 : decode cX3_hourThatParts 7 = .ok (.istore 4, 2) := by decide +kernel
theorem dX3_hourThatParts_9 : decode cX3_hourThatParts 9 = .ok (.iload 4, 2) := by decide +kernel
theorem dX3_hourThatParts_11 : decode cX3_hourThatParts 11 = .ok (.bipush 12, 2) := by decide +kernel
theorem dX3_hourThatParts_13 : decode cX3_hourThatParts 13 = .ok (.if_icmp .gt 42, 3) := by decide +kernel
theorem dX3_hourThatParts_16 : decode cX3_hourThatParts 16 = .ok (.aload_n 0, 1) := by decide +kernel
theorem dX3_hourThatParts_17 : decode cX3_hourThatParts 17 = .ok (.getfield 22, 3) := by decide +kernel
theorem dX3_hourThatParts_20 : decode cX3_hourThatParts 20 = .ok (.iload 4, 2) := by decide +kernel
theorem dX3_hourThatParts_22 : decode cX3_hourThatParts 22 = .ok (.iaload, 1) := by decide +kernel
theorem dX3_hourThatParts_23 : decode cX3_hourThatParts 23 = .ok (.iload_n 1, 1) := by decide +kernel
theorem dX3_hourThatParts_24 : decode cX3_hourThatParts 24 = .ok (.aload_n 0, 1) := by decide +kernel
theorem dX3_hourThatParts_25 : decode cX3_hourThatParts 25 = .ok (.getfield 22, 3) := by decide +kernel
theorem dX3_hourThatParts_28 : decode cX3_hourThatParts 28 = .ok (.iload 4, 2) := by decide +kernel
theorem dX3_hourThatParts_30 : decode cX3_hourThatParts 30 = .ok (.iaload, 1) := by decide +kernel
theorem dX3_hourThatParts_31 : decode cX3_hourThatParts 31 = .ok (.isub, 1) := by decide +kernel
theorem dX3_hourThatParts_32 : decode cX3_hourThatParts 32 = .ok (.invokestatic 92, 3) := by decide +kernel
theorem dX3_hourThatParts_35 : decode cX3_hourThatParts 35 = .ok (.istore 5, 2) := by decide +kernel
theorem dX3_hourThatParts_37 : decode cX3_hourThatParts 37 = .ok (.iload 5, 2) := by decide +kernel
theorem dX3_hourThatParts_39 : decode cX3_hourThatParts 39 = .ok (.iload_n 3, 1) := by decide +kernel
theorem dX3_hourThatParts_40 : decode cX3_hourThatParts 40 = .ok (.if_icmp .ge 9, 3) := by decide +kernel
theorem dX3_hourThatParts_43 : decode cX3_hourThatParts 43 = .ok (.iload 5, 2) := by decide +kernel
theorem dX3_hourThatParts_45 : decode cX3_hourThatParts 45 = .ok (.istore_n 3, 1) := by decide +kernel
theorem dX3_hourThatParts_46 : decode cX3_hourThatParts 46 = .ok (.iload 4, 2) := by decide +kernel
theorem dX3_hourThatParts_48 : decode cX3_hourThatParts 48 = .ok (.istore_n 2, 1) := by decide +kernel
theorem dX3_hourThatParts_49 : decode cX3_hourThatParts 49 = .ok (.iinc 4 1, 3) := by decide +kernel
theorem dX3_hourThatParts_52 : decode cX3_hourThatParts 52 = .ok (.goto (-43), 3) := by decide +kernel
theorem dX3_hourThatParts_55 : decode cX3_hourThatParts 55 = .ok (.iload_n 2, 1) := by decide +kernel
theorem dX3_hourThatParts_56 : decode cX3_hourThatParts 56 = .ok (.ireturn, 1) := by decide +kernel
theorem dX3_isPossible_0 : decode cX3_isPossible 0 = .ok (.aload_n 0, 1) := by decide +kernel
theorem dX3_isPossible_1 : decode cX3_isPossible 1 = .ok (.getfield 42, 3) := by decide +kernel
theorem dX3_isPossible_4 : decode cX3_isPossible 4 = .ok (.aload_n 0, 1) := by decide +kernel
theorem dX3_isPossible_5 : decode cX3_isPossible 5 = .ok (.getfield 29, 3) := by decide +kernel
theorem dX3_isPossible_8 : decode cX3_isPossible 8 = .ok (.invokevirtual 45, 3) := by decide +kernel
theorem dX3_isPossible_11 : decode cX3_isPossible 11 = .ok (.aload_n 0, 1) := by decide +kernel
theorem dX3_isPossible_12 : decode cX3_isPossible 12 = .ok (.getfield 42, 3) := by decide +kernel
theorem dX3_isPossible_15 : decode cX3_isPossible 15 = .ok (.getfield 97, 3) := by decide +kernel
theorem dX3_isPossible_18 : decode cX3_isPossible 18 = .ok (.iload_n 1, 1) := by decide +kernel
theorem dX3_isPossible_19 : decode cX3_isPossible 19 = .ok (.iload_n 2, 1) := by decide +kernel
theorem dX3_isPossible_20 : decode cX3_isPossible 20 = .ok (.iastore, 1) := by decide +kernel
theorem dX3_isPossible_21 : decode cX3_isPossible 21 = .ok (.iconst 1, 1) := by decide +kernel
theorem dX3_isPossible_22 : decode cX3_isPossible 22 = .ok (.istore_n 3, 1) := by decide +kernel
theorem dX3_isPossible_23 : decode cX3_isPossible 23 = .ok (.iload_n 3, 1) := by decide +kernel
theorem dX3_isPossible_24 : decode cX3_isPossible 24 = .ok (.bipush 12, 2) := by decide +kernel
theorem dX3_isPossible_26 : decode cX3_isPossible 26 = .ok (.if_icmp .gt 30, 3) := by decide +kernel
theorem dX3_isPossible_29 : decode cX3_isPossible 29 = .ok (.aload_n 0, 1) := by decide +kernel
theorem dX3_isPossible_30 : decode cX3_isPossible 30 = .ok (.getfield 42, 3) := by decide +kernel
theorem dX3_isPossible_33 : decode cX3_isPossible 33 = .ok (.invokevirtual 49, 3) := by decide +kernel
theorem dX3_isPossible_36 : decode cX3_isPossible 36 = .ok (.pop, 1) := by decide +kernel
theorem dX3_isPossible_37 : decode cX3_isPossible 37 = .ok (.aload_n 0, 1) := by decide +kernel
theorem dX3_isPossible_38 : decode cX3_isPossible 38 = .ok (.getfield 18, 3) := by decide +kernel
theorem dX3_isPossible_41 : decode cX3_isPossible 41 = .ok (.iload_n 3, 1) := by decide +kernel
theorem dX3_isPossible_42 : decode cX3_isPossible 42 = .ok (.aload_n 0, 1) := by decide +kernel
theorem dX3_isPossible_43 : decode cX3_isPossible 43 = .ok (.getfield 42, 3) := by decide +kernel
theorem dX3_isPossible_46 : decode cX3_isPossible 46 = .ok (.getfield 53, 3) := by decide +kernel
theorem dX3_isPossible_49 : decode cX3_isPossible 49 = .ok (.iastore, 1) := by decide +kernel
theorem dX3_isPossible_50 : decode cX3_isPossible 50 = .ok (.iinc 3 1, 3) := by decide +kernel
theorem dX3_isPossible_53 : decode cX3_isPossible 53 = .ok (.goto (-30), 3) := by decide +kernel
theorem dX3_isPossible_56 : decode cX3_isPossible 56 = .ok (.aload_n 0, 1) := by decide +kernel
theorem dX3_isPossible_57 : decode cX3_isPossible 57 = .ok (.getfield 33, 3) := by decide +kernel
theorem dX3_isPossible_60 : decode cX3_isPossible 60 = .ok (.aload_n 0, 1) := by decide +kernel
theorem dX3_isPossible_61 : decode cX3_isPossible 61 = .ok (.getfield 18, 3) := by decide +kernel
theorem dX3_isPossible_64 : decode cX3_isPossible 64 = .ok (.invokevirtual 100, 3) := by decide +kernel
theorem dX3_isPossible_67 : decode cX3_isPossible 67 = .ok (.ireturn, 1) := by decide +kernel
theorem dX4_init_0 : decode cX4_init 0 = .ok (.aload_n 0, 1) := by decide +kernel
theorem dX4_init_1 : decode cX4_init 1 = .ok (.invokespecial 3, 3) := by decide +kernel
theorem dX4_init_4 : decode cX4_init 4 = .ok (.aload_n 0, 1) := by decide +kernel
theorem dX4_init_5 : decode cX4_init 5 = .ok (.bipush 24, 2) := by decide +kernel
theorem dX4_init_7 : decode cX4_init 7 = .ok (.newarray .int, 2) := by decide +kernel
theorem dX4_init_9 : decode cX4_init 9 = .ok (.putfield 9, 3) := by decide +kernel
theorem dX4_init_12 : decode cX4_init 12 = .ok (.return_, 1) := by decide +kernel
theorem dX4_isFull_0 : decode cX4_isFull 0 = .ok (.aload_n 0, 1) := by decide +kernel
theorem dX4_isFull_1 : decode cX4_isFull 1 = .ok (.getfield 15, 3) := by decide +kernel
theorem dX4_isFull_4 : decode cX4_isFull 4 = .ok (.bipush 24, 2) := by decide +kernel
theorem dX4_isFull_6 : decode cX4_isFull 6 = .ok (.if_icmp .lt 7, 3) := by decide +kernel
theorem dX4_isFull_9 : decode cX4_isFull 9 = .ok (.iconst 1, 1) := by decide +kernel
theorem dX4_isFull_10 : decode cX4_isFull 10 = .ok (.goto 4, 3) := by decide +kernel
theorem dX4_isFull_13 : decode cX4_isFull 13 = .ok (.iconst 0, 1) := by decide +kernel
theorem dX4_isFull_14 : decode cX4_isFull 14 = .ok (.ireturn, 1) := by decide +kernel
theorem dX4_write_0 : decode cX4_write 0 = .ok (.aload_n 0, 1) := by decide +kernel
theorem dX4_write_1 : decode cX4_write 1 = .ok (.invokevirtual 19, 3) := by decide +kernel
theorem dX4_write_4 : decode cX4_write 4 = .ok (.ifCond .ne 23, 3) := by decide +kernel
theorem dX4_write_7 : decode cX4_write 7 = .ok (.aload_n 0, 1) := by decide +kernel
theorem dX4_write_8 : decode cX4_write 8 = .ok (.getfield 9, 3) := by decide +kernel
theorem dX4_write_11 : decode cX4_write 11 = .ok (.aload_n 0, 1) := by decide +kernel
theorem dX4_write_12 : decode cX4_write 12 = .ok (.getfield 15, 3) := by decide +kernel
theorem dX4_write_15 : decode cX4_write 15 = .ok (.iload_n 1, 1) := by decide +kernel
theorem dX4_write_16 : decode cX4_write 16 = .ok (.iastore, 1) := by decide +kernel
theorem dX4_write_17 : decode cX4_write 17 = .ok (.aload_n 0, 1) := by decide +kernel
theorem dX4_write_18 : decode cX4_write 18 = .ok (.dup, 1) := by decide +kernel
theorem dX4_write_19 : decode cX4_write 19 = .ok (.getfield 15, 3) := by decide +kernel
theorem dX4_write_22 : decode cX4_write 22 = .ok (.iconst 1, 1) := by decide +kernel
theorem dX4_write_23 : decode cX4_write 23 = .ok (.iadd, 1) := by decide +kernel
theorem dX4_write_24 : decode cX4_write 24 = .ok (.putfield 15, 3) := by decide +kernel
theorem dX4_write_27 : decode cX4_write 27 = .ok (.aload_n 0, 1) := by decide +kernel
theorem dX4_write_28 : decode cX4_write 28 = .ok (.getfield 15, 3) := by decide +kernel
theorem dX4_write_31 : decode cX4_write 31 = .ok (.ireturn, 1) := by decide +kernel
theorem dX4_clear_0 : decode cX4_clear 0 = .ok (.aload_n 0, 1) := by decide +kernel
theorem dX4_clear_1 : decode cX4_clear 1 = .ok (.getfield 15, 3) := by decide +kernel
theorem dX4_clear_4 : decode cX4_clear 4 = .ok (.istore_n 1, 1) := by decide +kernel
theorem dX4_clear_5 : decode cX4_clear 5 = .ok (.aload_n 0, 1) := by decide +kernel
theorem dX4_clear_6 : decode cX4_clear 6 = .ok (.iconst 0, 1) := by decide +kernel
theorem dX4_clear_7 : decode cX4_clear 7 = .ok (.putfield 15, 3) := by decide +kernel
theorem dX4_clear_10 : decode cX4_clear 10 = .ok (.iload_n 1, 1) := by decide +kernel
theorem dX4_clear_11 : decode cX4_clear 11 = .ok (.ireturn, 1) := by decide +kernel
theorem dX4_firstFault_0 : decode cX4_firstFault 0 = .ok (.iconst 0, 1) := by decide +kernel
theorem dX4_firstFault_1 : decode cX4_firstFault 1 = .ok (.istore_n 1, 1) := by decide +kernel
theorem dX4_firstFault_2 : decode cX4_firstFault 2 = .ok (.iload_n 1, 1) := by decide +kernel
theorem dX4_firstFault_3 : decode cX4_firstFault 3 = .ok (.aload_n 0, 1) := by decide +kernel
theorem dX4_firstFault_4 : decode cX4_firstFault 4 = .ok (.getfield 15, 3) := by decide +kernel
theorem dX4_firstFault_7 : decode cX4_firstFault 7 = .ok (.if_icmp .ge 19, 3) := by decide +kernel
theorem dX4_firstFault_10 : decode cX4_firstFault 10 = .ok (.aload_n 0, 1) := by decide +kernel
theorem dX4_firstFault_11 : decode cX4_firstFault 11 = .ok (.iload_n 1, 1) := by decide +kernel
theorem dX4_firstFault_12 : decode cX4_firstFault 12 = .ok (.invokevirtual 23, 3) := by decide +kernel
theorem dX4_firstFault_15 : decode cX4_firstFault 15 = .ok (.ifCond .ne 5, 3) := by decide +kernel
theorem dX4_firstFault_18 : decode cX4_firstFault 18 = .ok (.iload_n 1, 1) := by decide +kernel
theorem dX4_firstFault_19 : decode cX4_firstFault 19 = .ok (.ireturn, 1) := by decide +kernel
theorem dX4_firstFault_20 : decode cX4_firstFault 20 = .ok (.iinc 1 1, 3) := by decide +kernel
theorem dX4_firstFault_23 : decode cX4_firstFault 23 = .ok (.goto (-21), 3) := by decide +kernel
theorem dX4_firstFault_26 : decode cX4_firstFault 26 = .ok (.aload_n 0, 1) := by decide +kernel
theorem dX4_firstFault_27 : decode cX4_firstFault 27 = .ok (.getfield 15, 3) := by decide +kernel
theorem dX4_firstFault_30 : decode cX4_firstFault 30 = .ok (.ireturn, 1) := by decide +kernel
theorem dX4_holdsCoast_0 : decode cX4_holdsCoast 0 = .ok (.aload_n 0, 1) := by decide +kernel
theorem dX4_holdsCoast_1 : decode cX4_holdsCoast 1 = .ok (.invokevirtual 27, 3) := by decide +kernel
theorem dX4_holdsCoast_4 : decode cX4_holdsCoast 4 = .ok (.aload_n 0, 1) := by decide +kernel
theorem dX4_holdsCoast_5 : decode cX4_holdsCoast 5 = .ok (.getfield 15, 3) := by decide +kernel
theorem dX4_holdsCoast_8 : decode cX4_holdsCoast 8 = .ok (.if_icmp .ne 20, 3) := by decide +kernel
theorem dX4_holdsCoast_11 : decode cX4_holdsCoast 11 = .ok (.aload_n 0, 1) := by decide +kernel
theorem dX4_holdsCoast_12 : decode cX4_holdsCoast 12 = .ok (.aload_n 0, 1) := by decide +kernel
theorem dX4_holdsCoast_13 : decode cX4_holdsCoast 13 = .ok (.getfield 15, 3) := by decide +kernel
theorem dX4_holdsCoast_16 : decode cX4_holdsCoast 16 = .ok (.iconst 1, 1) := by decide +kernel
theorem dX4_holdsCoast_17 : decode cX4_holdsCoast 17 = .ok (.isub, 1) := by decide +kernel
theorem dX4_holdsCoast_18 : decode cX4_holdsCoast 18 = .ok (.invokevirtual 31, 3) := by decide +kernel
theorem dX4_holdsCoast_21 : decode cX4_holdsCoast 21 = .ok (.ifCond .eq 7, 3) := by decide +kernel
theorem dX4_holdsCoast_24 : decode cX4_holdsCoast 24 = .ok (.iconst 1, 1) := by decide +kernel
theorem dX4_holdsCoast_25 : decode cX4_holdsCoast 25 = .ok (.goto 4, 3) := by decide +kernel
theorem dX4_holdsCoast_28 : decode cX4_holdsCoast 28 = .ok (.iconst 0, 1) := by decide +kernel
theorem dX4_holdsCoast_29 : decode cX4_holdsCoast 29 = .ok (.ireturn, 1) := by decide +kernel
theorem dX4_rivers_0 : decode cX4_rivers 0 = .ok (.aload_n 0, 1) := by decide +kernel
theorem dX4_rivers_1 : decode cX4_rivers 1 = .ok (.getfield 15, 3) := by decide +kernel
theorem dX4_rivers_4 : decode cX4_rivers 4 = .ok (.iconst 4, 1) := by decide +kernel
theorem dX4_rivers_5 : decode cX4_rivers 5 = .ok (.idiv, 1) := by decide +kernel
theorem dX4_rivers_6 : decode cX4_rivers 6 = .ok (.ireturn, 1) := by decide +kernel
theorem dX4_kindAt_0 : decode cX4_kindAt 0 = .ok (.ldc 34, 2) := by decide +kernel
theorem dX4_kindAt_2 : decode cX4_kindAt 2 = .ok (.aload_n 0, 1) := by decide +kernel
theorem dX4_kindAt_3 : decode cX4_kindAt 3 = .ok (.iload_n 1, 1) := by decide +kernel
theorem dX4_kindAt_4 : decode cX4_kindAt 4 = .ok (.iconst 4, 1) := by decide +kernel
theorem dX4_kindAt_5 : decode cX4_kindAt 5 = .ok (.imul, 1) := by decide +kernel
theorem dX4_kindAt_6 : decode cX4_kindAt 6 = .ok (.invokevirtual 36, 3) := by decide +kernel
theorem dX4_kindAt_9 : decode cX4_kindAt 9 = .ok (.i2c, 1) := by decide +kernel
theorem dX4_kindAt_10 : decode cX4_kindAt 10 = .ok (.invokevirtual 40, 3) := by decide +kernel
theorem dX4_kindAt_13 : decode cX4_kindAt 13 = .ok (.ireturn, 1) := by decide +kernel
theorem dX4_waterAt_0 : decode cX4_waterAt 0 = .ok (.aload_n 0, 1) := by decide +kernel
theorem dX4_waterAt_1 : decode cX4_waterAt 1 = .ok (.iload_n 1, 1) := by decide +kernel
theorem dX4_waterAt_2 : decode cX4_waterAt 2 = .ok (.iconst 4, 1) := by decide +kernel
theorem dX4_waterAt_3 : decode cX4_waterAt 3 = .ok (.imul, 1) := by decide +kernel
theorem dX4_waterAt_4 : decode cX4_waterAt 4 = .ok (.iconst 1, 1) := by decide +kernel
theorem dX4_waterAt_5 : decode cX4_waterAt 5 = .ok (.iadd, 1) := by decide +kernel
theorem dX4_waterAt_6 : decode cX4_waterAt 6 = .ok (.invokevirtual 36, 3) := by decide +kernel
theorem dX4_waterAt_9 : decode cX4_waterAt 9 = .ok (.bipush 48, 2) := by decide +kernel
theorem dX4_waterAt_11 : decode cX4_waterAt 11 = .ok (.isub, 1) := by decide +kernel
theorem dX4_waterAt_12 : decode cX4_waterAt 12 = .ok (.ireturn, 1) := by decide +kernel
theorem dX4_flowAt_0 : decode cX4_flowAt 0 = .ok (.aload_n 0, 1) := by decide +kernel
theorem dX4_flowAt_1 : decode cX4_flowAt 1 = .ok (.iload_n 1, 1) := by decide +kernel
theorem dX4_flowAt_2 : decode cX4_flowAt 2 = .ok (.iconst 4, 1) := by decide +kernel
theorem dX4_flowAt_3 : decode cX4_flowAt 3 = .ok (.imul, 1) := by decide +kernel
theorem dX4_flowAt_4 : decode cX4_flowAt 4 = .ok (.iconst 2, 1) := by decide +kernel
theorem dX4_flowAt_5 : decode cX4_flowAt 5 = .ok (.iadd, 1) := by decide +kernel
theorem dX4_flowAt_6 : decode cX4_flowAt 6 = .ok (.invokevirtual 36, 3) := by decide +kernel
theorem dX4_flowAt_9 : decode cX4_flowAt 9 = .ok (.bipush 48, 2) := by decide +kernel
theorem dX4_flowAt_11 : decode cX4_flowAt 11 = .ok (.isub, 1) := by decide +kernel
theorem dX4_flowAt_12 : decode cX4_flowAt 12 = .ok (.ireturn, 1) := by decide +kernel
theorem dX4_lastDigit_0 : decode cX4_lastDigit 0 = .ok (.aload_n 0, 1) := by decide +kernel
theorem dX4_lastDigit_1 : decode cX4_lastDigit 1 = .ok (.aload_n 0, 1) := by decide +kernel
theorem dX4_lastDigit_2 : decode cX4_lastDigit 2 = .ok (.getfield 15, 3) := by decide +kernel
theorem dX4_lastDigit_5 : decode cX4_lastDigit 5 = .ok (.iconst 1, 1) := by decide +kernel
theorem dX4_lastDigit_6 : decode cX4_lastDigit 6 = .ok (.isub, 1) := by decide +kernel
theorem dX4_lastDigit_7 : decode cX4_lastDigit 7 = .ok (.invokevirtual 36, 3) := by decide +kernel
theorem dX4_lastDigit_10 : decode cX4_lastDigit 10 = .ok (.bipush 48, 2) := by decide +kernel
theorem dX4_lastDigit_12 : decode cX4_lastDigit 12 = .ok (.isub, 1) := by decide +kernel
theorem dX4_lastDigit_13 : decode cX4_lastDigit 13 = .ok (.ireturn, 1) := by decide +kernel
theorem dX4_fits_0 : decode cX4_fits 0 = .ok (.aload_n 0, 1) := by decide +kernel
theorem dX4_fits_1 : decode cX4_fits 1 = .ok (.iload_n 1, 1) := by decide +kernel
theorem dX4_fits_2 : decode cX4_fits 2 = .ok (.invokevirtual 36, 3) := by decide +kernel
theorem dX4_fits_5 : decode cX4_fits 5 = .ok (.istore_n 2, 1) := by decide +kernel
theorem dX4_fits_6 : decode cX4_fits 6 = .ok (.aload_n 0, 1) := by decide +kernel
theorem dX4_fits_7 : decode cX4_fits 7 = .ok (.iload_n 1, 1) := by decide +kernel
theorem dX4_fits_8 : decode cX4_fits 8 = .ok (.iconst 1, 1) := by decide +kernel
theorem dX4_fits_9 : decode cX4_fits 9 = .ok (.isub, 1) := by decide +kernel
theorem dX4_fits_10 : decode cX4_fits 10 = .ok (.invokevirtual 31, 3) := by decide +kernel
theorem dX4_fits_13 : decode cX4_fits 13 = .ok (.ifCond .eq 5, 3) := by decide +kernel
theorem dX4_fits_16 : decode cX4_fits 16 = .ok (.iconst 0, 1) := by decide +kernel
theorem dX4_fits_17 : decode cX4_fits 17 = .ok (.ireturn, 1) := by decide +kernel
theorem dX4_fits_18 : decode cX4_fits 18 = .ok (.aload_n 0, 1) := by decide +kernel
theorem dX4_fits_19 : decode cX4_fits 19 = .ok (.iload_n 1, 1) := by decide +kernel
theorem dX4_fits_20 : decode cX4_fits 20 = .ok (.invokevirtual 31, 3) := by decide +kernel
theorem dX4_fits_23 : decode cX4_fits 23 = .ok (.ifCond .eq 12, 3) := by decide +kernel
theorem dX4_fits_26 : decode cX4_fits 26 = .ok (.iload_n 2, 1) := by decide +kernel
theorem dX4_fits_27 : decode cX4_fits 27 = .ok (.bipush 49, 2) := by decide +kernel
theorem dX4_fits_29 : decode cX4_fits 29 = .ok (.bipush 57, 2) := by decide +kernel
theorem dX4_fits_31 : decode cX4_fits 31 = .ok (.invokestatic 45, 3) := by decide +kernel
theorem dX4_fits_34 : decode cX4_fits 34 = .ok (.ireturn, 1) := by decide +kernel
theorem dX4_fits_35 : decode cX4_fits 35 = .ok (.iload_n 1, 1) := by decide +kernel
theorem dX4_fits_36 : decode cX4_fits 36 = .ok (.iconst 4, 1) := by decide +kernel
theorem dX4_fits_37 : decode cX4_fits 37 = .ok (.idiv, 1) := by decide +kernel
theorem dX4_fits_38 : decode cX4_fits 38 = .ok (.istore_n 3, 1) := by decide +kernel
theorem dX4_fits_39 : decode cX4_fits 39 = .ok (.iload_n 1, 1) := by decide +kernel
theorem dX4_fits_40 : decode cX4_fits 40 = .ok (.iconst 4, 1) := by decide +kernel
theorem dX4_fits_41 : decode cX4_fits 41 = .ok (.irem, 1) := by decide +kernel
theorem dX4_fits_42 : decode cX4_fits 42 = .ok (.tableswitch 60 0 2 #[26, 42, 51], 26) := by decide +kernel
theorem dX4_fits_68 : decode cX4_fits 68 = .ok (.ldc 34, 2) := by decide +kernel
theorem dX4_fits_70 : decode cX4_fits 70 = .ok (.iload_n 2, 1) := by decide +kernel
theorem dX4_fits_71 : decode cX4_fits 71 = .ok (.i2c, 1) := by decide +kernel
theorem dX4_fits_72 : decode cX4_fits 72 = .ok (.invokevirtual 40, 3) := by decide +kernel
theorem dX4_fits_75 : decode cX4_fits 75 = .ok (.ifCond .lt 7, 3) := by decide +kernel
theorem dX4_fits_78 : decode cX4_fits 78 = .ok (.iconst 1, 1) := by decide +kernel
theorem dX4_fits_79 : decode cX4_fits 79 = .ok (.goto 4, 3) := by decide +kernel
theorem dX4_fits_82 : decode cX4_fits 82 = .ok (.iconst 0, 1) := by decide +kernel
theorem dX4_fits_83 : decode cX4_fits 83 = .ok (.ireturn, 1) := by decide +kernel
theorem dX4_fits_84 : decode cX4_fits 84 = .ok (.iload_n 2, 1) := by decide +kernel
theorem dX4_fits_85 : decode cX4_fits 85 = .ok (.bipush 48, 2) := by decide +kernel
theorem dX4_fits_87 : decode cX4_fits 87 = .ok (.bipush 57, 2) := by decide +kernel
theorem dX4_fits_89 : decode cX4_fits 89 = .ok (.invokestatic 45, 3) := by decide +kernel
theorem dX4_fits_92 : decode cX4_fits 92 = .ok (.ireturn, 1) := by decide +kernel
theorem dX4_fits_93 : decode cX4_fits 93 = .ok (.iload_n 2, 1) := by decide +kernel
theorem dX4_fits_94 : decode cX4_fits 94 = .ok (.bipush 48, 2) := by decide +kernel
theorem dX4_fits_96 : decode cX4_fits 96 = .ok (.bipush 53, 2) := by decide +kernel
theorem dX4_fits_98 : decode cX4_fits 98 = .ok (.invokestatic 45, 3) := by decide +kernel
theorem dX4_fits_101 : decode cX4_fits 101 = .ok (.ireturn, 1) := by decide +kernel
theorem dX4_fits_102 : decode cX4_fits 102 = .ok (.iload_n 2, 1) := by decide +kernel
theorem dX4_fits_103 : decode cX4_fits 103 = .ok (.iload_n 3, 1) := by decide +kernel
theorem dX4_fits_104 : decode cX4_fits 104 = .ok (.iconst 1, 1) := by decide +kernel
theorem dX4_fits_105 : decode cX4_fits 105 = .ok (.iadd, 1) := by decide +kernel
theorem dX4_fits_106 : decode cX4_fits 106 = .ok (.invokestatic 49, 3) := by decide +kernel
theorem dX4_fits_109 : decode cX4_fits 109 = .ok (.ireturn, 1) := by decide +kernel
theorem dX4_fitsBehindRiver_0 : decode cX4_fitsBehindRiver 0 = .ok (.iload_n 0, 1) := by decide +kernel
theorem dX4_fitsBehindRiver_1 : decode cX4_fitsBehindRiver 1 = .ok (.bipush 44, 2) := by decide +kernel
theorem dX4_fitsBehindRiver_3 : decode cX4_fitsBehindRiver 3 = .ok (.if_icmp .ne 14, 3) := by decide +kernel
theorem dX4_fitsBehindRiver_6 : decode cX4_fitsBehindRiver 6 = .ok (.iload_n 1, 1) := by decide +kernel
theorem dX4_fitsBehindRiver_7 : decode cX4_fitsBehindRiver 7 = .ok (.iconst 5, 1) := by decide +kernel
theorem dX4_fitsBehindRiver_8 : decode cX4_fitsBehindRiver 8 = .ok (.if_icmp .ge 7, 3) := by decide +kernel
theorem dX4_fitsBehindRiver_11 : decode cX4_fitsBehindRiver 11 = .ok (.iconst 1, 1) := by decide +kernel
theorem dX4_fitsBehindRiver_12 : decode cX4_fitsBehindRiver 12 = .ok (.goto 4, 3) := by decide +kernel
theorem dX4_fitsBehindRiver_15 : decode cX4_fitsBehindRiver 15 = .ok (.iconst 0, 1) := by decide +kernel
theorem dX4_fitsBehindRiver_16 : decode cX4_fitsBehindRiver 16 = .ok (.ireturn, 1) := by decide +kernel
theorem dX4_fitsBehindRiver_17 : decode cX4_fitsBehindRiver 17 = .ok (.iload_n 0, 1) := by decide +kernel
theorem dX4_fitsBehindRiver_18 : decode cX4_fitsBehindRiver 18 = .ok (.bipush 59, 2) := by decide +kernel
theorem dX4_fitsBehindRiver_20 : decode cX4_fitsBehindRiver 20 = .ok (.if_icmp .ne 12, 3) := by decide +kernel
theorem dX4_fitsBehindRiver_23 : decode cX4_fitsBehindRiver 23 = .ok (.iload_n 1, 1) := by decide +kernel
theorem dX4_fitsBehindRiver_24 : decode cX4_fitsBehindRiver 24 = .ok (.iconst 2, 1) := by decide +kernel
theorem dX4_fitsBehindRiver_25 : decode cX4_fitsBehindRiver 25 = .ok (.if_icmp .lt 7, 3) := by decide +kernel
theorem dX4_fitsBehindRiver_28 : decode cX4_fitsBehindRiver 28 = .ok (.iconst 1, 1) := by decide +kernel
theorem dX4_fitsBehindRiver_29 : decode cX4_fitsBehindRiver 29 = .ok (.goto 4, 3) := by decide +kernel
theorem dX4_fitsBehindRiver_32 : decode cX4_fitsBehindRiver 32 = .ok (.iconst 0, 1) := by decide +kernel
theorem dX4_fitsBehindRiver_33 : decode cX4_fitsBehindRiver 33 = .ok (.ireturn, 1) := by decide +kernel
theorem dX4_standsBehindEnd_0 : decode cX4_standsBehindEnd 0 = .ok (.aload_n 0, 1) := by decide +kernel
theorem dX4_standsBehindEnd_1 : decode cX4_standsBehindEnd 1 = .ok (.iload_n 1, 1) := by decide +kernel
theorem dX4_standsBehindEnd_2 : decode cX4_standsBehindEnd 2 = .ok (.iconst 1, 1) := by decide +kernel
theorem dX4_standsBehindEnd_3 : decode cX4_standsBehindEnd 3 = .ok (.isub, 1) := by decide +kernel
theorem dX4_standsBehindEnd_4 : decode cX4_standsBehindEnd 4 = .ok (.invokevirtual 36, 3) := by decide +kernel
theorem dX4_standsBehindEnd_7 : decode cX4_standsBehindEnd 7 = .ok (.bipush 59, 2) := by decide +kernel
theorem dX4_standsBehindEnd_9 : decode cX4_standsBehindEnd 9 = .ok (.if_icmp .ne 7, 3) := by decide +kernel
theorem dX4_standsBehindEnd_12 : decode cX4_standsBehindEnd 12 = .ok (.iconst 1, 1) := by decide +kernel
theorem dX4_standsBehindEnd_13 : decode cX4_standsBehindEnd 13 = .ok (.goto 4, 3) := by decide +kernel
theorem dX4_standsBehindEnd_16 : decode cX4_standsBehindEnd 16 = .ok (.iconst 0, 1) := by decide +kernel
theorem dX4_standsBehindEnd_17 : decode cX4_standsBehindEnd 17 = .ok (.ireturn, 1) := by decide +kernel
theorem dX4_codeAt_0 : decode cX4_codeAt 0 = .ok (.iload_n 1, 1) := by decide +kernel
theorem dX4_codeAt_1 : decode cX4_codeAt 1 = .ok (.ifCond .lt 29, 3) := by decide +kernel
theorem dX4_codeAt_4 : decode cX4_codeAt 4 = .ok (.iload_n 1, 1) := by decide +kernel
theorem dX4_codeAt_5 : decode cX4_codeAt 5 = .ok (.aload_n 0, 1) := by decide +kernel
theorem dX4_codeAt_6 : decode cX4_codeAt 6 = .ok (.getfield 15, 3) := by decide +kernel
theorem dX4_codeAt_9 : decode cX4_codeAt 9 = .ok (.if_icmp .ge 21, 3) := by decide +kernel
theorem dX4_codeAt_12 : decode cX4_codeAt 12 = .ok (.iload_n 1, 1) := by decide +kernel
theorem dX4_codeAt_13 : decode cX4_codeAt 13 = .ok (.aload_n 0, 1) := by decide +kernel
theorem dX4_codeAt_14 : decode cX4_codeAt 14 = .ok (.getfield 9, 3) := by decide +kernel
theorem dX4_codeAt_17 : decode cX4_codeAt 17 = .ok (.arraylength, 1) := by decide +kernel
theorem dX4_codeAt_18 : decode cX4_codeAt 18 = .ok (.if_icmp .ge 12, 3) := by decide +kernel
theorem dX4_codeAt_21 : decode cX4_codeAt 21 = .ok (.aload_n 0, 1) := by decide +kernel
theorem dX4_codeAt_22 : decode cX4_codeAt 22 = .ok (.getfield 9, 3) := by decide +kernel
theorem dX4_codeAt_25 : decode cX4_codeAt 25 = .ok (.iload_n 1, 1) := by decide +kernel
theorem dX4_codeAt_26 : decode cX4_codeAt 26 = .ok (.iaload, 1) := by decide +kernel
theorem dX4_codeAt_27 : decode cX4_codeAt 27 = .ok (.goto 4, 3) := by decide +kernel
theorem dX4_codeAt_30 : decode cX4_codeAt 30 = .ok (.iconst 0, 1) := by decide +kernel
theorem dX4_codeAt_31 : decode cX4_codeAt 31 = .ok (.ireturn, 1) := by decide +kernel
theorem dX5_init_0 : decode cX5_init 0 = .ok (.aload_n 0, 1) := by decide +kernel
theorem dX5_init_1 : decode cX5_init 1 = .ok (.invokespecial 3, 3) := by decide +kernel
theorem dX5_init_4 : decode cX5_init 4 = .ok (.aload_n 0, 1) := by decide +kernel
theorem dX5_init_5 : decode cX5_init 5 = .ok (.iconst 5, 1) := by decide +kernel
theorem dX5_init_6 : decode cX5_init 6 = .ok (.newarray .int, 2) := by decide +kernel
theorem dX5_init_8 : decode cX5_init 8 = .ok (.putfield 9, 3) := by decide +kernel
theorem dX5_init_11 : decode cX5_init 11 = .ok (.aload_n 0, 1) := by decide +kernel
theorem dX5_init_12 : decode cX5_init 12 = .ok (.iconst 5, 1) := by decide +kernel
theorem dX5_init_13 : decode cX5_init 13 = .ok (.newarray .int, 2) := by decide +kernel
theorem dX5_init_15 : decode cX5_init 15 = .ok (.putfield 15, 3) := by decide +kernel
theorem dX5_init_18 : decode cX5_init 18 = .ok (.aload_n 0, 1) := by decide +kernel
theorem dX5_init_19 : decode cX5_init 19 = .ok (.iconst 5, 1) := by decide +kernel
theorem dX5_init_20 : decode cX5_init 20 = .ok (.newarray .int, 2) := by decide +kernel
theorem dX5_init_22 : decode cX5_init 22 = .ok (.putfield 18, 3) := by decide +kernel
theorem dX5_init_25 : decode cX5_init 25 = .ok (.aload_n 0, 1) := by decide +kernel
theorem dX5_init_26 : decode cX5_init 26 = .ok (.iconst (-1), 1) := by decide +kernel
theorem dX5_init_27 : decode cX5_init 27 = .ok (.putfield 21, 3) := by decide +kernel
theorem dX5_init_30 : decode cX5_init 30 = .ok (.aload_n 0, 1) := by decide +kernel
theorem dX5_init_31 : decode cX5_init 31 = .ok (.aload_n 1, 1) := by decide +kernel
theorem dX5_init_32 : decode cX5_init 32 = .ok (.putfield 25, 3) := by decide +kernel
theorem dX5_init_35 : decode cX5_init 35 = .ok (.return_, 1) := by decide +kernel
theorem dX5_beginAs_0 : decode cX5_beginAs 0 = .ok (.iconst 0, 1) := by decide +kernel
theorem dX5_beginAs_1 : decode cX5_beginAs 1 = .ok (.istore_n 2, 1) := by decide +kernel
theorem dX5_beginAs_2 : decode cX5_beginAs 2 = .ok (.iload_n 2, 1) := by decide +kernel
theorem dX5_beginAs_3 : decode cX5_beginAs 3 = .ok (.aload_n 0, 1) := by decide +kernel
theorem dX5_beginAs_4 : decode cX5_beginAs 4 = .ok (.getfield 25, 3) := by decide +kernel
theorem dX5_beginAs_7 : decode cX5_beginAs 7 = .ok (.getfield 29, 3) := by decide +kernel
theorem dX5_beginAs_10 : decode cX5_beginAs 10 = .ok (.if_icmp .ge 34, 3) := by decide +kernel
theorem dX5_beginAs_13 : decode cX5_beginAs 13 = .ok (.aload_n 0, 1) := by decide +kernel
theorem dX5_beginAs_14 : decode cX5_beginAs 14 = .ok (.getfield 9, 3) := by decide +kernel
theorem dX5_beginAs_17 : decode cX5_beginAs 17 = .ok (.iload_n 2, 1) := by decide +kernel
theorem dX5_beginAs_18 : decode cX5_beginAs 18 = .ok (.aload_n 1, 1) := by decide +kernel
theorem dX5_beginAs_19 : decode cX5_beginAs 19 = .ok (.iload_n 2, 1) := by decide +kernel
theorem dX5_beginAs_20 : decode cX5_beginAs 20 = .ok (.invokevirtual 34, 3) := by decide +kernel
theorem dX5_beginAs_23 : decode cX5_beginAs 23 = .ok (.iastore, 1) := by decide +kernel
theorem dX5_beginAs_24 : decode cX5_beginAs 24 = .ok (.aload_n 0, 1) := by decide +kernel
theorem dX5_beginAs_25 : decode cX5_beginAs 25 = .ok (.getfield 15, 3) := by decide +kernel
theorem dX5_beginAs_28 : decode cX5_beginAs 28 = .ok (.iload_n 2, 1) := by decide +kernel
theorem dX5_beginAs_29 : decode cX5_beginAs 29 = .ok (.iconst 0, 1) := by decide +kernel
theorem dX5_beginAs_30 : decode cX5_beginAs 30 = .ok (.iastore, 1) := by decide +kernel
theorem dX5_beginAs_31 : decode cX5_beginAs 31 = .ok (.aload_n 0, 1) := by decide +kernel
theorem dX5_beginAs_32 : decode cX5_beginAs 32 = .ok (.getfield 18, 3) := by decide +kernel
theorem dX5_beginAs_35 : decode cX5_beginAs 35 = .ok (.iload_n 2, 1) := by decide +kernel
theorem dX5_beginAs_36 : decode cX5_beginAs 36 = .ok (.iload_n 2, 1) := by decide +kernel
theorem dX5_beginAs_37 : decode cX5_beginAs 37 = .ok (.iastore, 1) := by decide +kernel
theorem dX5_beginAs_38 : decode cX5_beginAs 38 = .ok (.iinc 2 1, 3) := by decide +kernel
theorem dX5_beginAs_41 : decode cX5_beginAs 41 = .ok (.goto (-39), 3) := by decide +kernel
theorem dX5_beginAs_44 : decode cX5_beginAs 44 = .ok (.aload_n 0, 1) := by decide +kernel
theorem dX5_beginAs_45 : decode cX5_beginAs 45 = .ok (.iconst 0, 1) := by decide +kernel
theorem dX5_beginAs_46 : decode cX5_beginAs 46 = .ok (.putfield 40, 3) := by decide +kernel
theorem dX5_beginAs_49 : decode cX5_beginAs 49 = .ok (.return_, 1) := by decide +kernel
theorem dX5_copyFrom_0 : decode cX5_copyFrom 0 = .ok (.aload_n 1, 1) := by decide +kernel
theorem dX5_copyFrom_1 : decode cX5_copyFrom 1 = .ok (.getfield 9, 3) := by decide +kernel
theorem dX5_copyFrom_4 : decode cX5_copyFrom 4 = .ok (.iconst 0, 1) := by decide +kernel
theorem dX5_copyFrom_5 : decode cX5_copyFrom 5 = .ok (.aload_n 0, 1) := by decide +kernel
theorem dX5_copyFrom_6 : decode cX5_copyFrom 6 = .ok (.getfield 9, 3) := by decide +kernel
theorem dX5_copyFrom_9 : decode cX5_copyFrom 9 = .ok (.iconst 0, 1) := by decide +kernel
theorem dX5_copyFrom_10 : decode cX5_copyFrom 10 = .ok (.iconst 5, 1) := by decide +kernel
theorem dX5_copyFrom_11 : decode cX5_copyFrom 11 = .ok (.invokestatic 43, 3) := by decide +kernel
theorem dX5_copyFrom_14 : decode cX5_copyFrom 14 = .ok (.aload_n 1, 1) := by decide +kernel
theorem dX5_copyFrom_15 : decode cX5_copyFrom 15 = .ok (.getfield 15, 3) := by decide +kernel
theorem dX5_copyFrom_18 : decode cX5_copyFrom 18 = .ok (.iconst 0, 1) := by decide +kernel
theorem dX5_copyFrom_19 : decode cX5_copyFrom 19 = .ok (.aload_n 0, 1) := by decide +kernel
theorem dX5_copyFrom_20 : decode cX5_copyFrom 20 = .ok (.getfield 15, 3) := by decide +kernel
theorem dX5_copyFrom_23 : decode cX5_copyFrom 23 = .ok (.iconst 0, 1) := by decide +kernel
theorem dX5_copyFrom_24 : decode cX5_copyFrom 24 = .ok (.iconst 5, 1) := by decide +kernel
theorem dX5_copyFrom_25 : decode cX5_copyFrom 25 = .ok (.invokestatic 43, 3) := by decide +kernel
theorem dX5_copyFrom_28 : decode cX5_copyFrom 28 = .ok (.aload_n 1, 1) := by decide +kernel
theorem dX5_copyFrom_29 : decode cX5_copyFrom 29 = .ok (.getfield 18, 3) := by decide +kernel
theorem dX5_copyFrom_32 : decode cX5_copyFrom 32 = .ok (.iconst 0, 1) := by decide +kernel
theorem dX5_copyFrom_33 : decode cX5_copyFrom 33 = .ok (.aload_n 0, 1) := by decide +kernel
theorem dX5_copyFrom_34 : decode cX5_copyFrom 34 = .ok (.getfield 18, 3) := by decide +kernel
theorem dX5_copyFrom_37 : decode cX5_copyFrom 37 = .ok (.iconst 0, 1) := by decide +kernel
theorem dX5_copyFrom_38 : decode cX5_copyFrom 38 = .ok (.iconst 5, 1) := by decide +kernel
theorem dX5_copyFrom_39 : decode cX5_copyFrom 39 = .ok (.invokestatic 43, 3) := by decide +kernel
theorem dX5_copyFrom_42 : decode cX5_copyFrom 42 = .ok (.aload_n 0, 1) := by decide +kernel
theorem dX5_copyFrom_43 : decode cX5_copyFrom 43 = .ok (.aload_n 1, 1) := by decide +kernel
theorem dX5_copyFrom_44 : decode cX5_copyFrom 44 = .ok (.getfield 40, 3) := by decide +kernel
theorem dX5_copyFrom_47 : decode cX5_copyFrom 47 = .ok (.putfield 40, 3) := by decide +kernel
theorem dX5_copyFrom_50 : decode cX5_copyFrom 50 = .ok (.return_, 1) := by decide +kernel
theorem dX5_waterInAll_0 : decode cX5_waterInAll 0 = .ok (.aload_n 0, 1) := by decide +kernel
theorem dX5_waterInAll_1 : decode cX5_waterInAll 1 = .ok (.aload_n 0, 1) := by decide +kernel
theorem dX5_waterInAll_2 : decode cX5_waterInAll 2 = .ok (.getfield 9, 3) := by decide +kernel
theorem dX5_waterInAll_5 : decode cX5_waterInAll 5 = .ok (.invokevirtual 49, 3) := by decide +kernel
theorem dX5_waterInAll_8 : decode cX5_waterInAll 8 = .ok (.ireturn, 1) := by decide +kernel
theorem dX5_tookInAll_0 : decode cX5_tookInAll 0 = .ok (.aload_n 0, 1) := by decide +kernel
theorem dX5_tookInAll_1 : decode cX5_tookInAll 1 = .ok (.aload_n 0, 1) := by decide +kernel
theorem dX5_tookInAll_2 : decode cX5_tookInAll 2 = .ok (.getfield 15, 3) := by decide +kernel
theorem dX5_tookInAll_5 : decode cX5_tookInAll 5 = .ok (.invokevirtual 49, 3) := by decide +kernel
theorem dX5_tookInAll_8 : decode cX5_tookInAll 8 = .ok (.ireturn, 1) := by decide +kernel
theorem dX5_placeOf_0 : decode cX5_placeOf 0 = .ok (.iconst 0, 1) := by decide +kernel
theorem dX5_placeOf_1 : decode cX5_placeOf 1 = .ok (.istore_n 2, 1) := by decide +kernel
theorem dX5_placeOf_2 : decode cX5_placeOf 2 = .ok (.iload_n 2, 1) := by decide +kernel
theorem dX5_placeOf_3 : decode cX5_placeOf 3 = .ok (.aload_n 0, 1) := by decide +kernel
theorem dX5_placeOf_4 : decode cX5_placeOf 4 = .ok (.getfield 25, 3) := by decide +kernel
theorem dX5_placeOf_7 : decode cX5_placeOf 7 = .ok (.getfield 29, 3) := by decide +kernel
theorem dX5_placeOf_10 : decode cX5_placeOf 10 = .ok (.if_icmp .ge 21, 3) := by decide +kernel
theorem dX5_placeOf_13 : decode cX5_placeOf 13 = .ok (.aload_n 0, 1) := by decide +kernel
theorem dX5_placeOf_14 : decode cX5_placeOf 14 = .ok (.getfield 18, 3) := by decide +kernel
theorem dX5_placeOf_17 : decode cX5_placeOf 17 = .ok (.iload_n 2, 1) := by decide +kernel
theorem dX5_placeOf_18 : decode cX5_placeOf 18 = .ok (.iaload, 1) := by decide +kernel
theorem dX5_placeOf_19 : decode cX5_placeOf 19 = .ok (.iload_n 1, 1) := by decide +kernel
theorem dX5_placeOf_20 : decode cX5_placeOf 20 = .ok (.if_icmp .ne 5, 3) := by decide +kernel
theorem dX5_placeOf_23 : decode cX5_placeOf 23 = .ok (.iload_n 2, 1) := by decide +kernel
theorem dX5_placeOf_24 : decode cX5_placeOf 24 = .ok (.ireturn, 1) := by decide +kernel
theorem dX5_placeOf_25 : decode cX5_placeOf 25 = .ok (.iinc 2 1, 3) := by decide +kernel
theorem dX5_placeOf_28 : decode cX5_placeOf 28 = .ok (.goto (-26), 3) := by decide +kernel
theorem dX5_placeOf_31 : decode cX5_placeOf 31 = .ok (.iconst (-1), 1) := by decide +kernel
theorem dX5_placeOf_32 : decode cX5_placeOf 32 = .ok (.ireturn, 1) := by decide +kernel
theorem dX5_passHour_0 : decode cX5_passHour 0 = .ok (.iconst 0, 1) := by decide +kernel
theorem dX5_passHour_1 : decode cX5_passHour 1 = .ok (.istore_n 1, 1) := by decide +kernel
theorem dX5_passHour_2 : decode cX5_passHour 2 = .ok (.iload_n 1, 1) := by decide +kernel
theorem dX5_passHour_3 : decode cX5_passHour 3 = .ok (.aload_n 0, 1) := by decide +kernel
theorem dX5_passHour_4 : decode cX5_passHour 4 = .ok (.getfield 25, 3) := by decide +kernel
theorem dX5_passHour_7 : decode cX5_passHour 7 = .ok (.getfield 29, 3) := by decide +kernel
theorem dX5_passHour_10 : decode cX5_passHour 10 = .ok (.if_icmp .ge 24, 3) := by decide +kernel
theorem dX5_passHour_13 : decode cX5_passHour 13 = .ok (.aload_n 0, 1) := by decide +kernel
theorem dX5_passHour_14 : decode cX5_passHour 14 = .ok (.iload_n 1, 1) := by decide +kernel
theorem dX5_passHour_15 : decode cX5_passHour 15 = .ok (.aload_n 0, 1) := by decide +kernel
theorem dX5_passHour_16 : decode cX5_passHour 16 = .ok (.getfield 25, 3) := by decide +kernel
theorem dX5_passHour_19 : decode cX5_passHour 19 = .ok (.getfield 53, 3) := by decide +kernel
theorem dX5_passHour_22 : decode cX5_passHour 22 = .ok (.iload_n 1, 1) := by decide +kernel
theorem dX5_passHour_23 : decode cX5_passHour 23 = .ok (.iaload, 1) := by decide +kernel
theorem dX5_passHour_24 : decode cX5_passHour 24 = .ok (.invokevirtual 56, 3) := by decide +kernel
theorem dX5_passHour_27 : decode cX5_passHour 27 = .ok (.pop, 1) := by decide +kernel
theorem dX5_passHour_28 : decode cX5_passHour 28 = .ok (.iinc 1 1, 3) := by decide +kernel
theorem dX5_passHour_31 : decode cX5_passHour 31 = .ok (.goto (-29), 3) := by decide +kernel
theorem dX5_passHour_34 : decode cX5_passHour 34 = .ok (.aload_n 0, 1) := by decide +kernel
theorem dX5_passHour_35 : decode cX5_passHour 35 = .ok (.invokevirtual 60, 3) := by decide +kernel
theorem dX5_passHour_38 : decode cX5_passHour 38 = .ok (.aload_n 0, 1) := by decide +kernel
theorem dX5_passHour_39 : decode cX5_passHour 39 = .ok (.dup, 1) := by decide +kernel
theorem dX5_passHour_40 : decode cX5_passHour 40 = .ok (.getfield 40, 3) := by decide +kernel
theorem dX5_passHour_43 : decode cX5_passHour 43 = .ok (.iconst 1, 1) := by decide +kernel
theorem dX5_passHour_44 : decode cX5_passHour 44 = .ok (.iadd, 1) := by decide +kernel
theorem dX5_passHour_45 : decode cX5_passHour 45 = .ok (.putfield 40, 3) := by decide +kernel
theorem dX5_passHour_48 : decode cX5_passHour 48 = .ok (.aload_n 0, 1) := by decide +kernel
theorem dX5_passHour_49 : decode cX5_passHour 49 = .ok (.invokevirtual 63, 3) := by decide +kernel
theorem dX5_passHour_52 : decode cX5_passHour 52 = .ok (.ireturn, 1) := by decide +kernel
theorem dX5_addWater_0 : decode cX5_addWater 0 = .ok (.aload_n 0, 1) := by decide +kernel
theorem dX5_addWater_1 : decode cX5_addWater 1 = .ok (.getfield 9, 3) := by decide +kernel
theorem dX5_addWater_4 : decode cX5_addWater 4 = .ok (.iload_n 1, 1) := by decide +kernel
theorem dX5_addWater_5 : decode cX5_addWater 5 = .ok (.aload_n 0, 1) := by decide +kernel
theorem dX5_addWater_6 : decode cX5_addWater 6 = .ok (.getfield 9, 3) := by decide +kernel
theorem dX5_addWater_9 : decode cX5_addWater 9 = .ok (.iload_n 1, 1) := by decide +kernel
theorem dX5_addWater_10 : decode cX5_addWater 10 = .ok (.iaload, 1) := by decide +kernel
theorem dX5_addWater_11 : decode cX5_addWater 11 = .ok (.iload_n 2, 1) := by decide +kernel
theorem dX5_addWater_12 : decode cX5_addWater 12 = .ok (.iadd, 1) := by decide +kernel
theorem dX5_addWater_13 : decode cX5_addWater 13 = .ok (.bipush 99, 2) := by decide +kernel
theorem dX5_addWater_15 : decode cX5_addWater 15 = .ok (.invokestatic 67, 3) := by decide +kernel
theorem dX5_addWater_18 : decode cX5_addWater 18 = .ok (.iastore, 1) := by decide +kernel
theorem dX5_addWater_19 : decode cX5_addWater 19 = .ok (.aload_n 0, 1) := by decide +kernel
theorem dX5_addWater_20 : decode cX5_addWater 20 = .ok (.getfield 9, 3) := by decide +kernel
theorem dX5_addWater_23 : decode cX5_addWater 23 = .ok (.iload_n 1, 1) := by decide +kernel
theorem dX5_addWater_24 : decode cX5_addWater 24 = .ok (.iaload, 1) := by decide +kernel
theorem dX5_addWater_25 : decode cX5_addWater 25 = .ok (.ireturn, 1) := by decide +kernel
theorem dX5_dryUp_0 : decode cX5_dryUp 0 = .ok (.aload_n 0, 1) := by decide +kernel
theorem dX5_dryUp_1 : decode cX5_dryUp 1 = .ok (.getfield 9, 3) := by decide +kernel
theorem dX5_dryUp_4 : decode cX5_dryUp 4 = .ok (.iload_n 1, 1) := by decide +kernel
theorem dX5_dryUp_5 : decode cX5_dryUp 5 = .ok (.iaload, 1) := by decide +kernel
theorem dX5_dryUp_6 : decode cX5_dryUp 6 = .ok (.istore_n 2, 1) := by decide +kernel
theorem dX5_dryUp_7 : decode cX5_dryUp 7 = .ok (.aload_n 0, 1) := by decide +kernel
theorem dX5_dryUp_8 : decode cX5_dryUp 8 = .ok (.getfield 9, 3) := by decide +kernel
theorem dX5_dryUp_11 : decode cX5_dryUp 11 = .ok (.iload_n 1, 1) := by decide +kernel
theorem dX5_dryUp_12 : decode cX5_dryUp 12 = .ok (.iconst 0, 1) := by decide +kernel
theorem dX5_dryUp_13 : decode cX5_dryUp 13 = .ok (.iastore, 1) := by decide +kernel
theorem dX5_dryUp_14 : decode cX5_dryUp 14 = .ok (.aload_n 0, 1) := by decide +kernel
theorem dX5_dryUp_15 : decode cX5_dryUp 15 = .ok (.aload_n 0, 1) := by decide +kernel
theorem dX5_dryUp_16 : decode cX5_dryUp 16 = .ok (.iload_n 1, 1) := by decide +kernel
theorem dX5_dryUp_17 : decode cX5_dryUp 17 = .ok (.invokevirtual 72, 3) := by decide +kernel
theorem dX5_dryUp_20 : decode cX5_dryUp 20 = .ok (.invokevirtual 75, 3) := by decide +kernel
theorem dX5_dryUp_23 : decode cX5_dryUp 23 = .ok (.iload_n 2, 1) := by decide +kernel
theorem dX5_dryUp_24 : decode cX5_dryUp 24 = .ok (.ireturn, 1) := by decide +kernel
theorem dX5_pushAll_0 : decode cX5_pushAll 0 = .ok (.iconst 1, 1) := by decide +kernel
theorem dX5_pushAll_1 : decode cX5_pushAll 1 = .ok (.istore_n 1, 1) := by decide +kernel
theorem dX5_pushAll_2 : decode cX5_pushAll 2 = .ok (.iload_n 1, 1) := by decide +kernel
theorem dX5_pushAll_3 : decode cX5_pushAll 3 = .ok (.aload_n 0, 1) := by decide +kernel
theorem dX5_pushAll_4 : decode cX5_pushAll 4 = .ok (.getfield 25, 3) := by decide +kernel
theorem dX5_pushAll_7 : decode cX5_pushAll 7 = .ok (.getfield 29, 3) := by decide +kernel
theorem dX5_pushAll_10 : decode cX5_pushAll 10 = .ok (.if_icmp .ge 50, 3) := by decide +kernel
theorem dX5_pushAll_13 : decode cX5_pushAll 13 = .ok (.aload_n 0, 1) := by decide +kernel
theorem dX5_pushAll_14 : decode cX5_pushAll 14 = .ok (.getfield 18, 3) := by decide +kernel
theorem dX5_pushAll_17 : decode cX5_pushAll 17 = .ok (.iload_n 1, 1) := by decide +kernel
theorem dX5_pushAll_18 : decode cX5_pushAll 18 = .ok (.iconst 1, 1) := by decide +kernel
theorem dX5_pushAll_19 : decode cX5_pushAll 19 = .ok (.isub, 1) := by decide +kernel
theorem dX5_pushAll_20 : decode cX5_pushAll 20 = .ok (.iaload, 1) := by decide +kernel
theorem dX5_pushAll_21 : decode cX5_pushAll 21 = .ok (.istore_n 2, 1) := by decide +kernel
theorem dX5_pushAll_22 : decode cX5_pushAll 22 = .ok (.aload_n 0, 1) := by decide +kernel
theorem dX5_pushAll_23 : decode cX5_pushAll 23 = .ok (.getfield 18, 3) := by decide +kernel
theorem dX5_pushAll_26 : decode cX5_pushAll 26 = .ok (.iload_n 1, 1) := by decide +kernel
theorem dX5_pushAll_27 : decode cX5_pushAll 27 = .ok (.iaload, 1) := by decide +kernel
theorem dX5_pushAll_28 : decode cX5_pushAll 28 = .ok (.istore_n 3, 1) := by decide +kernel
theorem dX5_pushAll_29 : decode cX5_pushAll 29 = .ok (.aload_n 0, 1) := by decide +kernel
theorem dX5_pushAll_30 : decode cX5_pushAll 30 = .ok (.iload_n 3, 1) := by decide +kernel
theorem dX5_pushAll_31 : decode cX5_pushAll 31 = .ok (.iload_n 2, 1) := by decide +kernel
theorem dX5_pushAll_32 : decode cX5_pushAll 32 = .ok (.invokevirtual 79, 3) := by decide +kernel
theorem dX5_pushAll_35 : decode cX5_pushAll 35 = .ok (.ifCond .eq 19, 3) := by decide +kernel
theorem dX5_pushAll_38 : decode cX5_pushAll 38 = .ok (.aload_n 0, 1) := by decide +kernel
theorem dX5_pushAll_39 : decode cX5_pushAll 39 = .ok (.getfield 18, 3) := by decide +kernel
theorem dX5_pushAll_42 : decode cX5_pushAll 42 = .ok (.iload_n 1, 1) := by decide +kernel
theorem dX5_pushAll_43 : decode cX5_pushAll 43 = .ok (.iconst 1, 1) := by decide +kernel
theorem dX5_pushAll_44 : decode cX5_pushAll 44 = .ok (.isub, 1) := by decide +kernel
theorem dX5_pushAll_45 : decode cX5_pushAll 45 = .ok (.iload_n 3, 1) := by decide +kernel
theorem dX5_pushAll_46 : decode cX5_pushAll 46 = .ok (.iastore, 1) := by decide +kernel
theorem dX5_pushAll_47 : decode cX5_pushAll 47 = .ok (.aload_n 0, 1) := by decide +kernel
theorem dX5_pushAll_48 : decode cX5_pushAll 48 = .ok (.getfield 18, 3) := by decide +kernel
theorem dX5_pushAll_51 : decode cX5_pushAll 51 = .ok (.iload_n 1, 1) := by decide +kernel
theorem dX5_pushAll_52 : decode cX5_pushAll 52 = .ok (.iload_n 2, 1) := by decide +kernel
theorem dX5_pushAll_53 : decode cX5_pushAll 53 = .ok (.iastore, 1) := by decide +kernel
theorem dX5_pushAll_54 : decode cX5_pushAll 54 = .ok (.iinc 1 1, 3) := by decide +kernel
theorem dX5_pushAll_57 : decode cX5_pushAll 57 = .ok (.goto (-55), 3) := by decide +kernel
theorem dX5_pushAll_60 : decode cX5_pushAll 60 = .ok (.return_, 1) := by decide +kernel
theorem dX5_pushes_0 : decode cX5_pushes 0 = .ok (.aload_n 0, 1) := by decide +kernel
theorem dX5_pushes_1 : decode cX5_pushes 1 = .ok (.getfield 25, 3) := by decide +kernel
theorem dX5_pushes_4 : decode cX5_pushes 4 = .ok (.getfield 83, 3) := by decide +kernel
theorem dX5_pushes_7 : decode cX5_pushes 7 = .ok (.iload_n 1, 1) := by decide +kernel
theorem dX5_pushes_8 : decode cX5_pushes 8 = .ok (.iaload, 1) := by decide +kernel
theorem dX5_pushes_9 : decode cX5_pushes 9 = .ok (.istore_n 3, 1) := by decide +kernel
theorem dX5_pushes_10 : decode cX5_pushes 10 = .ok (.iload_n 3, 1) := by decide +kernel
theorem dX5_pushes_11 : decode cX5_pushes 11 = .ok (.iconst 3, 1) := by decide +kernel
theorem dX5_pushes_12 : decode cX5_pushes 12 = .ok (.if_icmp .ne 5, 3) := by decide +kernel
theorem dX5_pushes_15 : decode cX5_pushes 15 = .ok (.iconst 0, 1) := by decide +kernel
theorem dX5_pushes_16 : decode cX5_pushes 16 = .ok (.ireturn, 1) := by decide +kernel
theorem dX5_pushes_17 : decode cX5_pushes 17 = .ok (.aload_n 0, 1) := by decide +kernel
theorem dX5_pushes_18 : decode cX5_pushes 18 = .ok (.getfield 25, 3) := by decide +kernel
theorem dX5_pushes_21 : decode cX5_pushes 21 = .ok (.getfield 83, 3) := by decide +kernel
theorem dX5_pushes_24 : decode cX5_pushes 24 = .ok (.iload_n 2, 1) := by decide +kernel
theorem dX5_pushes_25 : decode cX5_pushes 25 = .ok (.iaload, 1) := by decide +kernel
theorem dX5_pushes_26 : decode cX5_pushes 26 = .ok (.iconst 3, 1) := by decide +kernel
theorem dX5_pushes_27 : decode cX5_pushes 27 = .ok (.if_icmp .ne 18, 3) := by decide +kernel
theorem dX5_pushes_30 : decode cX5_pushes 30 = .ok (.aload_n 0, 1) := by decide +kernel
theorem dX5_pushes_31 : decode cX5_pushes 31 = .ok (.getfield 9, 3) := by decide +kernel
theorem dX5_pushes_34 : decode cX5_pushes 34 = .ok (.iload_n 1, 1) := by decide +kernel
theorem dX5_pushes_35 : decode cX5_pushes 35 = .ok (.iaload, 1) := by decide +kernel
theorem dX5_pushes_36 : decode cX5_pushes 36 = .ok (.ifCond .le 7, 3) := by decide +kernel
theorem dX5_pushes_39 : decode cX5_pushes 39 = .ok (.iconst 1, 1) := by decide +kernel
theorem dX5_pushes_40 : decode cX5_pushes 40 = .ok (.goto 4, 3) := by decide +kernel
theorem dX5_pushes_43 : decode cX5_pushes 43 = .ok (.iconst 0, 1) := by decide +kernel
theorem dX5_pushes_44 : decode cX5_pushes 44 = .ok (.ireturn, 1) := by decide +kernel
theorem dX5_pushes_45 : decode cX5_pushes 45 = .ok (.iload_n 3, 1) := by decide +kernel
theorem dX5_pushes_46 : decode cX5_pushes 46 = .ok (.tableswitch 74 1 4 #[30, 51, 74, 53], 30) := by decide +kernel
theorem dX5_pushes_76 : decode cX5_pushes 76 = .ok (.aload_n 0, 1) := by decide +kernel
theorem dX5_pushes_77 : decode cX5_pushes 77 = .ok (.getfield 9, 3) := by decide +kernel
theorem dX5_pushes_80 : decode cX5_pushes 80 = .ok (.iload_n 1, 1) := by decide +kernel
theorem dX5_pushes_81 : decode cX5_pushes 81 = .ok (.iaload, 1) := by decide +kernel
theorem dX5_pushes_82 : decode cX5_pushes 82 = .ok (.aload_n 0, 1) := by decide +kernel
theorem dX5_pushes_83 : decode cX5_pushes 83 = .ok (.getfield 9, 3) := by decide +kernel
theorem dX5_pushes_86 : decode cX5_pushes 86 = .ok (.iload_n 2, 1) := by decide +kernel
theorem dX5_pushes_87 : decode cX5_pushes 87 = .ok (.iaload, 1) := by decide +kernel
theorem dX5_pushes_88 : decode cX5_pushes 88 = .ok (.if_icmp .le 7, 3) := by decide +kernel
theorem dX5_pushes_91 : decode cX5_pushes 91 = .ok (.iconst 1, 1) := by decide +kernel
theorem dX5_pushes_92 : decode cX5_pushes 92 = .ok (.goto 4, 3) := by decide +kernel
theorem dX5_pushes_95 : decode cX5_pushes 95 = .ok (.iconst 0, 1) := by decide +kernel
theorem dX5_pushes_96 : decode cX5_pushes 96 = .ok (.ireturn, 1) := by decide +kernel
theorem dX5_pushes_97 : decode cX5_pushes 97 = .ok (.iconst 0, 1) := by decide +kernel
theorem dX5_pushes_98 : decode cX5_pushes 98 = .ok (.ireturn, 1) := by decide +kernel
theorem dX5_pushes_99 : decode cX5_pushes 99 = .ok (.aload_n 0, 1) := by decide +kernel
theorem dX5_pushes_100 : decode cX5_pushes 100 = .ok (.getfield 9, 3) := by decide +kernel
theorem dX5_pushes_103 : decode cX5_pushes 103 = .ok (.iload_n 1, 1) := by decide +kernel
theorem dX5_pushes_104 : decode cX5_pushes 104 = .ok (.iaload, 1) := by decide +kernel
theorem dX5_pushes_105 : decode cX5_pushes 105 = .ok (.aload_n 0, 1) := by decide +kernel
theorem dX5_pushes_106 : decode cX5_pushes 106 = .ok (.getfield 9, 3) := by decide +kernel
theorem dX5_pushes_109 : decode cX5_pushes 109 = .ok (.iload_n 2, 1) := by decide +kernel
theorem dX5_pushes_110 : decode cX5_pushes 110 = .ok (.iaload, 1) := by decide +kernel
theorem dX5_pushes_111 : decode cX5_pushes 111 = .ok (.if_icmp .lt 7, 3) := by decide +kernel
theorem dX5_pushes_114 : decode cX5_pushes 114 = .ok (.iconst 1, 1) := by decide +kernel
theorem dX5_pushes_115 : decode cX5_pushes 115 = .ok (.goto 4, 3) := by decide +kernel
theorem dX5_pushes_118 : decode cX5_pushes 118 = .ok (.iconst 0, 1) := by decide +kernel
theorem dX5_pushes_119 : decode cX5_pushes 119 = .ok (.ireturn, 1) := by decide +kernel
theorem dX5_pushes_120 : decode cX5_pushes 120 = .ok (.aload_n 0, 1) := by decide +kernel
theorem dX5_pushes_121 : decode cX5_pushes 121 = .ok (.getfield 9, 3) := by decide +kernel
theorem dX5_pushes_124 : decode cX5_pushes 124 = .ok (.iload_n 1, 1) := by decide +kernel
theorem dX5_pushes_125 : decode cX5_pushes 125 = .ok (.iaload, 1) := by decide +kernel
theorem dX5_pushes_126 : decode cX5_pushes 126 = .ok (.iconst 2, 1) := by decide +kernel
theorem dX5_pushes_127 : decode cX5_pushes 127 = .ok (.aload_n 0, 1) := by decide +kernel
theorem dX5_pushes_128 : decode cX5_pushes 128 = .ok (.getfield 9, 3) := by decide +kernel
theorem dX5_pushes_131 : decode cX5_pushes 131 = .ok (.iload_n 2, 1) := by decide +kernel
theorem dX5_pushes_132 : decode cX5_pushes 132 = .ok (.iaload, 1) := by decide +kernel
theorem dX5_pushes_133 : decode cX5_pushes 133 = .ok (.imul, 1) := by decide +kernel
theorem dX5_pushes_134 : decode cX5_pushes 134 = .ok (.if_icmp .le 7, 3) := by decide +kernel
theorem dX5_pushes_137 : decode cX5_pushes 137 = .ok (.iconst 1, 1) := by decide +kernel
theorem dX5_pushes_138 : decode cX5_pushes 138 = .ok (.goto 4, 3) := by decide +kernel
theorem dX5_pushes_141 : decode cX5_pushes 141 = .ok (.iconst 0, 1) := by decide +kernel
theorem dX5_pushes_142 : decode cX5_pushes 142 = .ok (.ireturn, 1) := by decide +kernel
theorem dX5_feedSea_0 : decode cX5_feedSea 0 = .ok (.aload_n 0, 1) := by decide +kernel
theorem dX5_feedSea_1 : decode cX5_feedSea 1 = .ok (.getfield 18, 3) := by decide +kernel
theorem dX5_feedSea_4 : decode cX5_feedSea 4 = .ok (.iconst 0, 1) := by decide +kernel
theorem dX5_feedSea_5 : decode cX5_feedSea 5 = .ok (.iaload, 1) := by decide +kernel
theorem dX5_feedSea_6 : decode cX5_feedSea 6 = .ok (.istore_n 1, 1) := by decide +kernel
theorem dX5_feedSea_7 : decode cX5_feedSea 7 = .ok (.aload_n 0, 1) := by decide +kernel
theorem dX5_feedSea_8 : decode cX5_feedSea 8 = .ok (.getfield 25, 3) := by decide +kernel
theorem dX5_feedSea_11 : decode cX5_feedSea 11 = .ok (.getfield 86, 3) := by decide +kernel
theorem dX5_feedSea_14 : decode cX5_feedSea 14 = .ok (.aload_n 0, 1) := by decide +kernel
theorem dX5_feedSea_15 : decode cX5_feedSea 15 = .ok (.getfield 9, 3) := by decide +kernel
theorem dX5_feedSea_18 : decode cX5_feedSea 18 = .ok (.iload_n 1, 1) := by decide +kernel
theorem dX5_feedSea_19 : decode cX5_feedSea 19 = .ok (.iaload, 1) := by decide +kernel
theorem dX5_feedSea_20 : decode cX5_feedSea 20 = .ok (.invokestatic 67, 3) := by decide +kernel
theorem dX5_feedSea_23 : decode cX5_feedSea 23 = .ok (.istore_n 2, 1) := by decide +kernel
theorem dX5_feedSea_24 : decode cX5_feedSea 24 = .ok (.aload_n 0, 1) := by decide +kernel
theorem dX5_feedSea_25 : decode cX5_feedSea 25 = .ok (.getfield 9, 3) := by decide +kernel
theorem dX5_feedSea_28 : decode cX5_feedSea 28 = .ok (.iload_n 1, 1) := by decide +kernel
theorem dX5_feedSea_29 : decode cX5_feedSea 29 = .ok (.dup2, 1) := by decide +kernel
theorem dX5_feedSea_30 : decode cX5_feedSea 30 = .ok (.iaload, 1) := by decide +kernel
theorem dX5_feedSea_31 : decode cX5_feedSea 31 = .ok (.iload_n 2, 1) := by decide +kernel
theorem dX5_feedSea_32 : decode cX5_feedSea 32 = .ok (.isub, 1) := by decide +kernel
theorem dX5_feedSea_33 : decode cX5_feedSea 33 = .ok (.iastore, 1) := by decide +kernel
theorem dX5_feedSea_34 : decode cX5_feedSea 34 = .ok (.aload_n 0, 1) := by decide +kernel
theorem dX5_feedSea_35 : decode cX5_feedSea 35 = .ok (.getfield 15, 3) := by decide +kernel
theorem dX5_feedSea_38 : decode cX5_feedSea 38 = .ok (.iload_n 1, 1) := by decide +kernel
theorem dX5_feedSea_39 : decode cX5_feedSea 39 = .ok (.dup2, 1) := by decide +kernel
theorem dX5_feedSea_40 : decode cX5_feedSea 40 = .ok (.iaload, 1) := by decide +kernel
theorem dX5_feedSea_41 : decode cX5_feedSea 41 = .ok (.iload_n 2, 1) := by decide +kernel
theorem dX5_feedSea_42 : decode cX5_feedSea 42 = .ok (.iadd, 1) := by decide +kernel
theorem dX5_feedSea_43 : decode cX5_feedSea 43 = .ok (.iastore, 1) := by decide +kernel
theorem dX5_feedSea_44 : decode cX5_feedSea 44 = .ok (.aload_n 0, 1) := by decide +kernel
theorem dX5_feedSea_45 : decode cX5_feedSea 45 = .ok (.iload_n 2, 1) := by decide +kernel
theorem dX5_feedSea_46 : decode cX5_feedSea 46 = .ok (.ifCond .le 7, 3) := by decide +kernel
theorem dX5_feedSea_49 : decode cX5_feedSea 49 = .ok (.iload_n 1, 1) := by decide +kernel
theorem dX5_feedSea_50 : decode cX5_feedSea 50 = .ok (.goto 4, 3) := by decide +kernel
theorem dX5_feedSea_53 : decode cX5_feedSea 53 = .ok (.iconst (-1), 1) := by decide +kernel
theorem dX5_feedSea_54 : decode cX5_feedSea 54 = .ok (.putfield 21, 3) := by decide +kernel
theorem dX5_feedSea_57 : decode cX5_feedSea 57 = .ok (.aload_n 0, 1) := by decide +kernel
theorem dX5_feedSea_58 : decode cX5_feedSea 58 = .ok (.getfield 9, 3) := by decide +kernel
theorem dX5_feedSea_61 : decode cX5_feedSea 61 = .ok (.iload_n 1, 1) := by decide +kernel
theorem dX5_feedSea_62 : decode cX5_feedSea 62 = .ok (.iaload, 1) := by decide +kernel
theorem dX5_feedSea_63 : decode cX5_feedSea 63 = .ok (.ifCond .ne 8, 3) := by decide +kernel
theorem dX5_feedSea_66 : decode cX5_feedSea 66 = .ok (.aload_n 0, 1) := by decide +kernel
theorem dX5_feedSea_67 : decode cX5_feedSea 67 = .ok (.iconst 0, 1) := by decide +kernel
theorem dX5_feedSea_68 : decode cX5_feedSea 68 = .ok (.invokevirtual 75, 3) := by decide +kernel
theorem dX5_feedSea_71 : decode cX5_feedSea 71 = .ok (.iload_n 2, 1) := by decide +kernel
theorem dX5_feedSea_72 : decode cX5_feedSea 72 = .ok (.ireturn, 1) := by decide +kernel
theorem dX5_sendBehindAll_0 : decode cX5_sendBehindAll 0 = .ok (.aload_n 0, 1) := by decide +kernel
theorem dX5_sendBehindAll_1 : decode cX5_sendBehindAll 1 = .ok (.getfield 25, 3) := by decide +kernel
theorem dX5_sendBehindAll_4 : decode cX5_sendBehindAll 4 = .ok (.iload_n 1, 1) := by decide +kernel
theorem dX5_sendBehindAll_5 : decode cX5_sendBehindAll 5 = .ok (.invokevirtual 89, 3) := by decide +kernel
theorem dX5_sendBehindAll_8 : decode cX5_sendBehindAll 8 = .ok (.ifCond .ne 4, 3) := by decide +kernel
theorem dX5_sendBehindAll_11 : decode cX5_sendBehindAll 11 = .ok (.return_, 1) := by decide +kernel
theorem dX5_sendBehindAll_12 : decode cX5_sendBehindAll 12 = .ok (.aload_n 0, 1) := by decide +kernel
theorem dX5_sendBehindAll_13 : decode cX5_sendBehindAll 13 = .ok (.getfield 25, 3) := by decide +kernel
theorem dX5_sendBehindAll_16 : decode cX5_sendBehindAll 16 = .ok (.getfield 29, 3) := by decide +kernel
theorem dX5_sendBehindAll_19 : decode cX5_sendBehindAll 19 = .ok (.iconst 1, 1) := by decide +kernel
theorem dX5_sendBehindAll_20 : decode cX5_sendBehindAll 20 = .ok (.isub, 1) := by decide +kernel
theorem dX5_sendBehindAll_21 : decode cX5_sendBehindAll 21 = .ok (.istore_n 2, 1) := by decide +kernel
theorem dX5_sendBehindAll_22 : decode cX5_sendBehindAll 22 = .ok (.aload_n 0, 1) := by decide +kernel
theorem dX5_sendBehindAll_23 : decode cX5_sendBehindAll 23 = .ok (.getfield 18, 3) := by decide +kernel
theorem dX5_sendBehindAll_26 : decode cX5_sendBehindAll 26 = .ok (.iload_n 1, 1) := by decide +kernel
theorem dX5_sendBehindAll_27 : decode cX5_sendBehindAll 27 = .ok (.iaload, 1) := by decide +kernel
theorem dX5_sendBehindAll_28 : decode cX5_sendBehindAll 28 = .ok (.istore_n 3, 1) := by decide +kernel
theorem dX5_sendBehindAll_29 : decode cX5_sendBehindAll 29 = .ok (.iload_n 1, 1) := by decide +kernel
theorem dX5_sendBehindAll_30 : decode cX5_sendBehindAll 30 = .ok (.istore 4, 2) := by decide +kernel
theorem dX5_sendBehindAll_32 : decode cX5_sendBehindAll 32 = .ok (.iload 4, 2) := by decide +kernel
theorem dX5_sendBehindAll_34 : decode cX5_sendBehindAll 34 = .ok (.iload_n 2, 1) := by decide +kernel
theorem dX5_sendBehindAll_35 : decode cX5_sendBehindAll 35 = .ok (.if_icmp .ge 25, 3) := by decide +kernel
theorem dX5_sendBehindAll_38 : decode cX5_sendBehindAll 38 = .ok (.aload_n 0, 1) := by decide +kernel
theorem dX5_sendBehindAll_39 : decode cX5_sendBehindAll 39 = .ok (.getfield 18, 3) := by decide +kernel
theorem dX5_sendBehindAll_42 : decode cX5_sendBehindAll 42 = .ok (.iload 4, 2) := by decide +kernel
theorem dX5_sendBehindAll_44 : decode cX5_sendBehindAll 44 = .ok (.aload_n 0, 1) := by decide +kernel
theorem dX5_sendBehindAll_45 : decode cX5_sendBehindAll 45 = .ok (.getfield 18, 3) := by decide +kernel
theorem dX5_sendBehindAll_48 : decode cX5_sendBehindAll 48 = .ok (.iload 4, 2) := by decide +kernel
theorem dX5_sendBehindAll_50 : decode cX5_sendBehindAll 50 = .ok (.iconst 1, 1) := by decide +kernel
theorem dX5_sendBehindAll_51 : decode cX5_sendBehindAll 51 = .ok (.iadd, 1) := by decide +kernel
theorem dX5_sendBehindAll_52 : decode cX5_sendBehindAll 52 = .ok (.iaload, 1) := by decide +kernel
theorem dX5_sendBehindAll_53 : decode cX5_sendBehindAll 53 = .ok (.iastore, 1) := by decide +kernel
theorem dX5_sendBehindAll_54 : decode cX5_sendBehindAll 54 = .ok (.iinc 4 1, 3) := by decide +kernel
theorem dX5_sendBehindAll_57 : decode cX5_sendBehindAll 57 = .ok (.goto (-25), 3) := by decide +kernel
theorem dX5_sendBehindAll_60 : decode cX5_sendBehindAll 60 = .ok (.aload_n 0, 1) := by decide +kernel
theorem dX5_sendBehindAll_61 : decode cX5_sendBehindAll 61 = .ok (.getfield 18, 3) := by decide +kernel
theorem dX5_sendBehindAll_64 : decode cX5_sendBehindAll 64 = .ok (.iload_n 2, 1) := by decide +kernel
theorem dX5_sendBehindAll_65 : decode cX5_sendBehindAll 65 = .ok (.iload_n 3, 1) := by decide +kernel
theorem dX5_sendBehindAll_66 : decode cX5_sendBehindAll 66 = .ok (.iastore, 1) := by decide +kernel
theorem dX5_sendBehindAll_67 : decode cX5_sendBehindAll 67 = .ok (.return_, 1) := by decide +kernel
theorem dX5_sumOfRivers_0 : decode cX5_sumOfRivers 0 = .ok (.iconst 0, 1) := by decide +kernel
theorem dX5_sumOfRivers_1 : decode cX5_sumOfRivers 1 = .ok (.istore_n 2, 1) := by decide +kernel
theorem dX5_sumOfRivers_2 : decode cX5_sumOfRivers 2 = .ok (.iconst 0, 1) := by decide +kernel
theorem dX5_sumOfRivers_3 : decode cX5_sumOfRivers 3 = .ok (.istore_n 3, 1) := by decide +kernel
theorem dX5_sumOfRivers_4 : decode cX5_sumOfRivers 4 = .ok (.iload_n 3, 1) := by decide +kernel
theorem dX5_sumOfRivers_5 : decode cX5_sumOfRivers 5 = .ok (.aload_n 0, 1) := by decide +kernel
theorem dX5_sumOfRivers_6 : decode cX5_sumOfRivers 6 = .ok (.getfield 25, 3) := by decide +kernel
theorem dX5_sumOfRivers_9 : decode cX5_sumOfRivers 9 = .ok (.getfield 29, 3) := by decide +kernel
theorem dX5_sumOfRivers_12 : decode cX5_sumOfRivers 12 = .ok (.if_icmp .ge 15, 3) := by decide +kernel
theorem dX5_sumOfRivers_15 : decode cX5_sumOfRivers 15 = .ok (.iload_n 2, 1) := by decide +kernel
theorem dX5_sumOfRivers_16 : decode cX5_sumOfRivers 16 = .ok (.aload_n 1, 1) := by decide +kernel
theorem dX5_sumOfRivers_17 : decode cX5_sumOfRivers 17 = .ok (.iload_n 3, 1) := by decide +kernel
theorem dX5_sumOfRivers_18 : decode cX5_sumOfRivers 18 = .ok (.iaload, 1) := by decide +kernel
theorem dX5_sumOfRivers_19 : decode cX5_sumOfRivers 19 = .ok (.iadd, 1) := by decide +kernel
theorem dX5_sumOfRivers_20 : decode cX5_sumOfRivers 20 = .ok (.istore_n 2, 1) := by decide +kernel
theorem dX5_sumOfRivers_21 : decode cX5_sumOfRivers 21 = .ok (.iinc 3 1, 3) := by decide +kernel
theorem dX5_sumOfRivers_24 : decode cX5_sumOfRivers 24 = .ok (.goto (-20), 3) := by decide +kernel
theorem dX5_sumOfRivers_27 : decode cX5_sumOfRivers 27 = .ok (.iload_n 2, 1) := by decide +kernel
theorem dX5_sumOfRivers_28 : decode cX5_sumOfRivers 28 = .ok (.ireturn, 1) := by decide +kernel
theorem dX6_init_0 : decode cX6_init 0 = .ok (.aload_n 0, 1) := by decide +kernel
theorem dX6_init_1 : decode cX6_init 1 = .ok (.invokespecial 3, 3) := by decide +kernel
theorem dX6_init_4 : decode cX6_init 4 = .ok (.aload_n 0, 1) := by decide +kernel
theorem dX6_init_5 : decode cX6_init 5 = .ok (.bipush 6, 2) := by decide +kernel
theorem dX6_init_7 : decode cX6_init 7 = .ok (.newarray .int, 2) := by decide +kernel
theorem dX6_init_9 : decode cX6_init 9 = .ok (.putfield 9, 3) := by decide +kernel
theorem dX6_init_12 : decode cX6_init 12 = .ok (.aload_n 0, 1) := by decide +kernel
theorem dX6_init_13 : decode cX6_init 13 = .ok (.bipush 6, 2) := by decide +kernel
theorem dX6_init_15 : decode cX6_init 15 = .ok (.newarray .int, 2) := by decide +kernel
theorem dX6_init_17 : decode cX6_init 17 = .ok (.putfield 15, 3) := by decide +kernel
theorem dX6_init_20 : decode cX6_init 20 = .ok (.aload_n 0, 1) := by decide +kernel
theorem dX6_init_21 : decode cX6_init 21 = .ok (.bipush 6, 2) := by decide +kernel
theorem dX6_init_23 : decode cX6_init 23 = .ok (.newarray .boolean, 2) := by decide +kernel
theorem dX6_init_25 : decode cX6_init 25 = .ok (.putfield 18, 3) := by decide +kernel
theorem dX6_init_28 : decode cX6_init 28 = .ok (.return_, 1) := by decide +kernel
theorem dX6_isFull_0 : decode cX6_isFull 0 = .ok (.aload_n 0, 1) := by decide +kernel
theorem dX6_isFull_1 : decode cX6_isFull 1 = .ok (.getfield 22, 3) := by decide +kernel
theorem dX6_isFull_4 : decode cX6_isFull 4 = .ok (.bipush 6, 2) := by decide +kernel
theorem dX6_isFull_6 : decode cX6_isFull 6 = .ok (.if_icmp .lt 7, 3) := by decide +kernel
theorem dX6_isFull_9 : decode cX6_isFull 9 = .ok (.iconst 1, 1) := by decide +kernel
theorem dX6_isFull_10 : decode cX6_isFull 10 = .ok (.goto 4, 3) := by decide +kernel
theorem dX6_isFull_13 : decode cX6_isFull 13 = .ok (.iconst 0, 1) := by decide +kernel
theorem dX6_isFull_14 : decode cX6_isFull 14 = .ok (.ireturn, 1) := by decide +kernel
theorem dX6_add_0 : decode cX6_add 0 = .ok (.aload_n 0, 1) := by decide +kernel
theorem dX6_add_1 : decode cX6_add 1 = .ok (.invokevirtual 26, 3) := by decide +kernel
theorem dX6_add_4 : decode cX6_add 4 = .ok (.ifCond .ne 43, 3) := by decide +kernel
theorem dX6_add_7 : decode cX6_add 7 = .ok (.aload_n 0, 1) := by decide +kernel
theorem dX6_add_8 : decode cX6_add 8 = .ok (.getfield 9, 3) := by decide +kernel
theorem dX6_add_11 : decode cX6_add 11 = .ok (.aload_n 0, 1) := by decide +kernel
theorem dX6_add_12 : decode cX6_add 12 = .ok (.getfield 22, 3) := by decide +kernel
theorem dX6_add_15 : decode cX6_add 15 = .ok (.iload_n 1, 1) := by decide +kernel
theorem dX6_add_16 : decode cX6_add 16 = .ok (.iastore, 1) := by decide +kernel
theorem dX6_add_17 : decode cX6_add 17 = .ok (.aload_n 0, 1) := by decide +kernel
theorem dX6_add_18 : decode cX6_add 18 = .ok (.getfield 15, 3) := by decide +kernel
theorem dX6_add_21 : decode cX6_add 21 = .ok (.aload_n 0, 1) := by decide +kernel
theorem dX6_add_22 : decode cX6_add 22 = .ok (.getfield 22, 3) := by decide +kernel
theorem dX6_add_25 : decode cX6_add 25 = .ok (.iload_n 2, 1) := by decide +kernel
theorem dX6_add_26 : decode cX6_add 26 = .ok (.iastore, 1) := by decide +kernel
theorem dX6_add_27 : decode cX6_add 27 = .ok (.aload_n 0, 1) := by decide +kernel
theorem dX6_add_28 : decode cX6_add 28 = .ok (.getfield 18, 3) := by decide +kernel
theorem dX6_add_31 : decode cX6_add 31 = .ok (.aload_n 0, 1) := by decide +kernel
theorem dX6_add_32 : decode cX6_add 32 = .ok (.getfield 22, 3) := by decide +kernel
theorem dX6_add_35 : decode cX6_add 35 = .ok (.iload_n 3, 1) := by decide +kernel
theorem dX6_add_36 : decode cX6_add 36 = .ok (.bastore, 1) := by decide +kernel
theorem dX6_add_37 : decode cX6_add 37 = .ok (.aload_n 0, 1) := by decide +kernel
theorem dX6_add_38 : decode cX6_add 38 = .ok (.dup, 1) := by decide +kernel
theorem dX6_add_39 : decode cX6_add 39 = .ok (.getfield 22, 3) := by decide +kernel
theorem dX6_add_42 : decode cX6_add 42 = .ok (.iconst 1, 1) := by decide +kernel
theorem dX6_add_43 : decode cX6_add 43 = .ok (.iadd, 1) := by decide +kernel
theorem dX6_add_44 : decode cX6_add 44 = .ok (.putfield 22, 3) := by decide +kernel
theorem dX6_add_47 : decode cX6_add 47 = .ok (.aload_n 0, 1) := by decide +kernel
theorem dX6_add_48 : decode cX6_add 48 = .ok (.getfield 22, 3) := by decide +kernel
theorem dX6_add_51 : decode cX6_add 51 = .ok (.ireturn, 1) := by decide +kernel
theorem dX6_clear_0 : decode cX6_clear 0 = .ok (.aload_n 0, 1) := by decide +kernel
theorem dX6_clear_1 : decode cX6_clear 1 = .ok (.getfield 22, 3) := by decide +kernel
theorem dX6_clear_4 : decode cX6_clear 4 = .ok (.istore_n 1, 1) := by decide +kernel
theorem dX6_clear_5 : decode cX6_clear 5 = .ok (.aload_n 0, 1) := by decide +kernel
theorem dX6_clear_6 : decode cX6_clear 6 = .ok (.iconst 0, 1) := by decide +kernel
theorem dX6_clear_7 : decode cX6_clear 7 = .ok (.putfield 22, 3) := by decide +kernel
theorem dX6_clear_10 : decode cX6_clear 10 = .ok (.iload_n 1, 1) := by decide +kernel
theorem dX6_clear_11 : decode cX6_clear 11 = .ok (.ireturn, 1) := by decide +kernel
theorem dX6_copyFrom_0 : decode cX6_copyFrom 0 = .ok (.iconst 0, 1) := by decide +kernel
theorem dX6_copyFrom_1 : decode cX6_copyFrom 1 = .ok (.istore_n 2, 1) := by decide +kernel
theorem dX6_copyFrom_2 : decode cX6_copyFrom 2 = .ok (.iload_n 2, 1) := by decide +kernel
theorem dX6_copyFrom_3 : decode cX6_copyFrom 3 = .ok (.bipush 6, 2) := by decide +kernel
theorem dX6_copyFrom_5 : decode cX6_copyFrom 5 = .ok (.if_icmp .ge 45, 3) := by decide +kernel
theorem dX6_copyFrom_8 : decode cX6_copyFrom 8 = .ok (.aload_n 0, 1) := by decide +kernel
theorem dX6_copyFrom_9 : decode cX6_copyFrom 9 = .ok (.getfield 9, 3) := by decide +kernel
theorem dX6_copyFrom_12 : decode cX6_copyFrom 12 = .ok (.iload_n 2, 1) := by decide +kernel
theorem dX6_copyFrom_13 : decode cX6_copyFrom 13 = .ok (.aload_n 1, 1) := by decide +kernel
theorem dX6_copyFrom_14 : decode cX6_copyFrom 14 = .ok (.getfield 9, 3) := by decide +kernel
theorem dX6_copyFrom_17 : decode cX6_copyFrom 17 = .ok (.iload_n 2, 1) := by decide +kernel
theorem dX6_copyFrom_18 : decode cX6_copyFrom 18 = .ok (.iaload, 1) := by decide +kernel
theorem dX6_copyFrom_19 : decode cX6_copyFrom 19 = .ok (.iastore, 1) := by decide +kernel
theorem dX6_copyFrom_20 : decode cX6_copyFrom 20 = .ok (.aload_n 0, 1) := by decide +kernel
theorem dX6_copyFrom_21 : decode cX6_copyFrom 21 = .ok (.getfield 15, 3) := by decide +kernel
theorem dX6_copyFrom_24 : decode cX6_copyFrom 24 = .ok (.iload_n 2, 1) := by decide +kernel
theorem dX6_copyFrom_25 : decode cX6_copyFrom 25 = .ok (.aload_n 1, 1) := by decide +kernel
theorem dX6_copyFrom_26 : decode cX6_copyFrom 26 = .ok (.getfield 15, 3) := by decide +kernel
theorem dX6_copyFrom_29 : decode cX6_copyFrom 29 = .ok (.iload_n 2, 1) := by decide +kernel
theorem dX6_copyFrom_30 : decode cX6_copyFrom 30 = .ok (.iaload, 1) := by decide +kernel
theorem dX6_copyFrom_31 : decode cX6_copyFrom 31 = .ok (.iastore, 1) := by decide +kernel
theorem dX6_copyFrom_32 : decode cX6_copyFrom 32 = .ok (.aload_n 0, 1) := by decide +kernel
theorem dX6_copyFrom_33 : decode cX6_copyFrom 33 = .ok (.getfield 18, 3) := by decide +kernel
theorem dX6_copyFrom_36 : decode cX6_copyFrom 36 = .ok (.iload_n 2, 1) := by decide +kernel
theorem dX6_copyFrom_37 : decode cX6_copyFrom 37 = .ok (.aload_n 1, 1) := by decide +kernel
theorem dX6_copyFrom_38 : decode cX6_copyFrom 38 = .ok (.getfield 18, 3) := by decide +kernel
theorem dX6_copyFrom_41 : decode cX6_copyFrom 41 = .ok (.iload_n 2, 1) := by decide +kernel
theorem dX6_copyFrom_42 : decode cX6_copyFrom 42 = .ok (.baload, 1) := by decide +kernel
theorem dX6_copyFrom_43 : decode cX6_copyFrom 43 = .ok (.bastore, 1) := by decide +kernel
theorem dX6_copyFrom_44 : decode cX6_copyFrom 44 = .ok (.iinc 2 1, 3) := by decide +kernel
theorem dX6_copyFrom_47 : decode cX6_copyFrom 47 = .ok (.goto (-45), 3) := by decide +kernel
theorem dX6_copyFrom_50 : decode cX6_copyFrom 50 = .ok (.aload_n 0, 1) := by decide +kernel
theorem dX6_copyFrom_51 : decode cX6_copyFrom 51 = .ok (.aload_n 1, 1) := by decide +kernel
theorem dX6_copyFrom_52 : decode cX6_copyFrom 52 = .ok (.getfield 22, 3) := by decide +kernel
theorem dX6_copyFrom_55 : decode cX6_copyFrom 55 = .ok (.putfield 22, 3) := by decide +kernel
theorem dX6_copyFrom_58 : decode cX6_copyFrom 58 = .ok (.return_, 1) := by decide +kernel
theorem dX6_agreeWith_0 : decode cX6_agreeWith 0 = .ok (.iconst 0, 1) := by decide +kernel
theorem dX6_agreeWith_1 : decode cX6_agreeWith 1 = .ok (.istore_n 2, 1) := by decide +kernel
theorem dX6_agreeWith_2 : decode cX6_agreeWith 2 = .ok (.iload_n 2, 1) := by decide +kernel
theorem dX6_agreeWith_3 : decode cX6_agreeWith 3 = .ok (.aload_n 0, 1) := by decide +kernel
theorem dX6_agreeWith_4 : decode cX6_agreeWith 4 = .ok (.getfield 22, 3) := by decide +kernel
theorem dX6_agreeWith_7 : decode cX6_agreeWith 7 = .ok (.if_icmp .ge 54, 3) := by decide +kernel
theorem dX6_agreeWith_10 : decode cX6_agreeWith 10 = .ok (.aload_n 0, 1) := by decide +kernel
theorem dX6_agreeWith_11 : decode cX6_agreeWith 11 = .ok (.getfield 9, 3) := by decide +kernel
theorem dX6_agreeWith_14 : decode cX6_agreeWith 14 = .ok (.iload_n 2, 1) := by decide +kernel
theorem dX6_agreeWith_15 : decode cX6_agreeWith 15 = .ok (.iaload, 1) := by decide +kernel
theorem dX6_agreeWith_16 : decode cX6_agreeWith 16 = .ok (.istore_n 3, 1) := by decide +kernel
theorem dX6_agreeWith_17 : decode cX6_agreeWith 17 = .ok (.iload_n 3, 1) := by decide +kernel
theorem dX6_agreeWith_18 : decode cX6_agreeWith 18 = .ok (.aload_n 1, 1) := by decide +kernel
theorem dX6_agreeWith_19 : decode cX6_agreeWith 19 = .ok (.arraylength, 1) := by decide +kernel
theorem dX6_agreeWith_20 : decode cX6_agreeWith 20 = .ok (.if_icmp .ge 19, 3) := by decide +kernel
theorem dX6_agreeWith_23 : decode cX6_agreeWith 23 = .ok (.aload_n 1, 1) := by decide +kernel
theorem dX6_agreeWith_24 : decode cX6_agreeWith 24 = .ok (.iload_n 3, 1) := by decide +kernel
theorem dX6_agreeWith_25 : decode cX6_agreeWith 25 = .ok (.iaload, 1) := by decide +kernel
theorem dX6_agreeWith_26 : decode cX6_agreeWith 26 = .ok (.aload_n 0, 1) := by decide +kernel
theorem dX6_agreeWith_27 : decode cX6_agreeWith 27 = .ok (.getfield 15, 3) := by decide +kernel
theorem dX6_agreeWith_30 : decode cX6_agreeWith 30 = .ok (.iload_n 2, 1) := by decide +kernel
theorem dX6_agreeWith_31 : decode cX6_agreeWith 31 = .ok (.iaload, 1) := by decide +kernel
theorem dX6_agreeWith_32 : decode cX6_agreeWith 32 = .ok (.if_icmp .ne 7, 3) := by decide +kernel
theorem dX6_agreeWith_35 : decode cX6_agreeWith 35 = .ok (.iconst 1, 1) := by decide +kernel
theorem dX6_agreeWith_36 : decode cX6_agreeWith 36 = .ok (.goto 4, 3) := by decide +kernel
theorem dX6_agreeWith_39 : decode cX6_agreeWith 39 = .ok (.iconst 0, 1) := by decide +kernel
theorem dX6_agreeWith_40 : decode cX6_agreeWith 40 = .ok (.istore 4, 2) := by decide +kernel
theorem dX6_agreeWith_42 : decode cX6_agreeWith 42 = .ok (.iload 4, 2) := by decide +kernel
theorem dX6_agreeWith_44 : decode cX6_agreeWith 44 = .ok (.aload_n 0, 1) := by decide +kernel
theorem dX6_agreeWith_45 : decode cX6_agreeWith 45 = .ok (.getfield 18, 3) := by decide +kernel
theorem dX6_agreeWith_48 : decode cX6_agreeWith 48 = .ok (.iload_n 2, 1) := by decide +kernel
theorem dX6_agreeWith_49 : decode cX6_agreeWith 49 = .ok (.baload, 1) := by decide +kernel
theorem dX6_agreeWith_50 : decode cX6_agreeWith 50 = .ok (.if_icmp .eq 5, 3) := by decide +kernel
theorem dX6_agreeWith_53 : decode cX6_agreeWith 53 = .ok (.iconst 0, 1) := by decide +kernel
theorem dX6_agreeWith_54 : decode cX6_agreeWith 54 = .ok (.ireturn, 1) := by decide +kernel
theorem dX6_agreeWith_55 : decode cX6_agreeWith 55 = .ok (.iinc 2 1, 3) := by decide +kernel
theorem dX6_agreeWith_58 : decode cX6_agreeWith 58 = .ok (.goto (-56), 3) := by decide +kernel
theorem dX6_agreeWith_61 : decode cX6_agreeWith 61 = .ok (.iconst 1, 1) := by decide +kernel
theorem dX6_agreeWith_62 : decode cX6_agreeWith 62 = .ok (.ireturn, 1) := by decide +kernel
theorem dX7_init_0 : decode cX7_init 0 = .ok (.aload_n 0, 1) := by decide +kernel
theorem dX7_init_1 : decode cX7_init 1 = .ok (.invokespecial 1, 3) := by decide +kernel
theorem dX7_init_4 : decode cX7_init 4 = .ok (.aload_n 0, 1) := by decide +kernel
theorem dX7_init_5 : decode cX7_init 5 = .ok (.new 7, 3) := by decide +kernel
theorem dX7_init_8 : decode cX7_init 8 = .ok (.dup, 1) := by decide +kernel
theorem dX7_init_9 : decode cX7_init 9 = .ok (.invokespecial 9, 3) := by decide +kernel
theorem dX7_init_12 : decode cX7_init 12 = .ok (.putfield 10, 3) := by decide +kernel
theorem dX7_init_15 : decode cX7_init 15 = .ok (.aload_n 0, 1) := by decide +kernel
theorem dX7_init_16 : decode cX7_init 16 = .ok (.new 16, 3) := by decide +kernel
theorem dX7_init_19 : decode cX7_init 19 = .ok (.dup, 1) := by decide +kernel
theorem dX7_init_20 : decode cX7_init 20 = .ok (.invokespecial 18, 3) := by decide +kernel
theorem dX7_init_23 : decode cX7_init 23 = .ok (.putfield 19, 3) := by decide +kernel
theorem dX7_init_26 : decode cX7_init 26 = .ok (.aload_n 0, 1) := by decide +kernel
theorem dX7_init_27 : decode cX7_init 27 = .ok (.new 23, 3) := by decide +kernel
theorem dX7_init_30 : decode cX7_init 30 = .ok (.dup, 1) := by decide +kernel
theorem dX7_init_31 : decode cX7_init 31 = .ok (.aload_n 0, 1) := by decide +kernel
theorem dX7_init_32 : decode cX7_init 32 = .ok (.getfield 19, 3) := by decide +kernel
theorem dX7_init_35 : decode cX7_init 35 = .ok (.invokespecial 25, 3) := by decide +kernel
theorem dX7_init_38 : decode cX7_init 38 = .ok (.putfield 28, 3) := by decide +kernel
theorem dX7_init_41 : decode cX7_init 41 = .ok (.aload_n 0, 1) := by decide +kernel
theorem dX7_init_42 : decode cX7_init 42 = .ok (.new 32, 3) := by decide +kernel
theorem dX7_init_45 : decode cX7_init 45 = .ok (.dup, 1) := by decide +kernel
theorem dX7_init_46 : decode cX7_init 46 = .ok (.invokespecial 34, 3) := by decide +kernel
theorem dX7_init_49 : decode cX7_init 49 = .ok (.putfield 35, 3) := by decide +kernel
theorem dX7_init_52 : decode cX7_init 52 = .ok (.aload_n 0, 1) := by decide +kernel
theorem dX7_init_53 : decode cX7_init 53 = .ok (.new 23, 3) := by decide +kernel
theorem dX7_init_56 : decode cX7_init 56 = .ok (.dup, 1) := by decide +kernel
theorem dX7_init_57 : decode cX7_init 57 = .ok (.aload_n 0, 1) := by decide +kernel
theorem dX7_init_58 : decode cX7_init 58 = .ok (.getfield 19, 3) := by decide +kernel
theorem dX7_init_61 : decode cX7_init 61 = .ok (.invokespecial 25, 3) := by decide +kernel
theorem dX7_init_64 : decode cX7_init 64 = .ok (.putfield 39, 3) := by decide +kernel
theorem dX7_init_67 : decode cX7_init 67 = .ok (.aload_n 0, 1) := by decide +kernel
theorem dX7_init_68 : decode cX7_init 68 = .ok (.new 32, 3) := by decide +kernel
theorem dX7_init_71 : decode cX7_init 71 = .ok (.dup, 1) := by decide +kernel
theorem dX7_init_72 : decode cX7_init 72 = .ok (.invokespecial 34, 3) := by decide +kernel
theorem dX7_init_75 : decode cX7_init 75 = .ok (.putfield 42, 3) := by decide +kernel
theorem dX7_init_78 : decode cX7_init 78 = .ok (.aload_n 0, 1) := by decide +kernel
theorem dX7_init_79 : decode cX7_init 79 = .ok (.new 45, 3) := by decide +kernel
theorem dX7_init_82 : decode cX7_init 82 = .ok (.dup, 1) := by decide +kernel
theorem dX7_init_83 : decode cX7_init 83 = .ok (.aload_n 0, 1) := by decide +kernel
theorem dX7_init_84 : decode cX7_init 84 = .ok (.getfield 19, 3) := by decide +kernel
theorem dX7_init_87 : decode cX7_init 87 = .ok (.aload_n 0, 1) := by decide +kernel
theorem dX7_init_88 : decode cX7_init 88 = .ok (.getfield 28, 3) := by decide +kernel
theorem dX7_init_91 : decode cX7_init 91 = .ok (.aload_n 0, 1) := by decide +kernel
theorem dX7_init_92 : decode cX7_init 92 = .ok (.getfield 35, 3) := by decide +kernel
theorem dX7_init_95 : decode cX7_init 95 = .ok (.invokespecial 47, 3) := by decide +kernel
theorem dX7_init_98 : decode cX7_init 98 = .ok (.putfield 50, 3) := by decide +kernel
theorem dX7_init_101 : decode cX7_init 101 = .ok (.aload_n 0, 1) := by decide +kernel
theorem dX7_init_102 : decode cX7_init 102 = .ok (.new 54, 3) := by decide +kernel
theorem dX7_init_105 : decode cX7_init 105 = .ok (.dup, 1) := by decide +kernel
theorem dX7_init_106 : decode cX7_init 106 = .ok (.aload_n 0, 1) := by decide +kernel
theorem dX7_init_107 : decode cX7_init 107 = .ok (.getfield 19, 3) := by decide +kernel
theorem dX7_init_110 : decode cX7_init 110 = .ok (.aload_n 0, 1) := by decide +kernel
theorem dX7_init_111 : decode cX7_init 111 = .ok (.getfield 28, 3) := by decide +kernel
theorem dX7_init_114 : decode cX7_init 114 = .ok (.invokespecial 56, 3) := by decide +kernel
theorem dX7_init_117 : decode cX7_init 117 = .ok (.putfield 59, 3) := by decide +kernel
theorem dX7_init_120 : decode cX7_init 120 = .ok (.return_, 1) := by decide +kernel
theorem dX7_letter_0 : decode cX7_letter 0 = .ok (.iload_n 1, 1) := by decide +kernel
theorem dX7_letter_1 : decode cX7_letter 1 = .ok (.iconst 1, 1) := by decide +kernel
theorem dX7_letter_2 : decode cX7_letter 2 = .ok (.bipush 126, 2) := by decide +kernel
theorem dX7_letter_4 : decode cX7_letter 4 = .ok (.invokestatic 63, 3) := by decide +kernel
theorem dX7_letter_7 : decode cX7_letter 7 = .ok (.ifCond .ne 6, 3) := by decide +kernel
theorem dX7_letter_10 : decode cX7_letter 10 = .ok (.bipush (-102), 2) := by decide +kernel
theorem dX7_letter_12 : decode cX7_letter 12 = .ok (.ireturn, 1) := by decide +kernel
theorem dX7_letter_13 : decode cX7_letter 13 = .ok (.aload_n 0, 1) := by decide +kernel
theorem dX7_letter_14 : decode cX7_letter 14 = .ok (.getfield 10, 3) := by decide +kernel
theorem dX7_letter_17 : decode cX7_letter 17 = .ok (.invokevirtual 67, 3) := by decide +kernel
theorem dX7_letter_20 : decode cX7_letter 20 = .ok (.ifCond .eq 6, 3) := by decide +kernel
theorem dX7_letter_23 : decode cX7_letter 23 = .ok (.bipush (-104), 2) := by decide +kernel
theorem dX7_letter_25 : decode cX7_letter 25 = .ok (.ireturn, 1) := by decide +kernel
theorem dX7_letter_26 : decode cX7_letter 26 = .ok (.aload_n 0, 1) := by decide +kernel
theorem dX7_letter_27 : decode cX7_letter 27 = .ok (.getfield 10, 3) := by decide +kernel
theorem dX7_letter_30 : decode cX7_letter 30 = .ok (.iload_n 1, 1) := by decide +kernel
theorem dX7_letter_31 : decode cX7_letter 31 = .ok (.invokevirtual 71, 3) := by decide +kernel
theorem dX7_letter_34 : decode cX7_letter 34 = .ok (.ireturn, 1) := by decide +kernel
theorem dX7_blank_0 : decode cX7_blank 0 = .ok (.aload_n 0, 1) := by decide +kernel
theorem dX7_blank_1 : decode cX7_blank 1 = .ok (.getfield 10, 3) := by decide +kernel
theorem dX7_blank_4 : decode cX7_blank 4 = .ok (.invokevirtual 75, 3) := by decide +kernel
theorem dX7_blank_7 : decode cX7_blank 7 = .ok (.ireturn, 1) := by decide +kernel
theorem dX7_fault_0 : decode cX7_fault 0 = .ok (.aload_n 0, 1) := by decide +kernel
theorem dX7_fault_1 : decode cX7_fault 1 = .ok (.getfield 10, 3) := by decide +kernel
theorem dX7_fault_4 : decode cX7_fault 4 = .ok (.invokevirtual 79, 3) := by decide +kernel
theorem dX7_fault_7 : decode cX7_fault 7 = .ok (.ireturn, 1) := by decide +kernel
theorem dX7_coast_0 : decode cX7_coast 0 = .ok (.aload_n 0, 1) := by decide +kernel
theorem dX7_coast_1 : decode cX7_coast 1 = .ok (.getfield 10, 3) := by decide +kernel
theorem dX7_coast_4 : decode cX7_coast 4 = .ok (.invokevirtual 82, 3) := by decide +kernel
theorem dX7_coast_7 : decode cX7_coast 7 = .ok (.ifCond .ne 6, 3) := by decide +kernel
theorem dX7_coast_10 : decode cX7_coast 10 = .ok (.bipush (-103), 2) := by decide +kernel
theorem dX7_coast_12 : decode cX7_coast 12 = .ok (.ireturn, 1) := by decide +kernel
theorem dX7_coast_13 : decode cX7_coast 13 = .ok (.aload_n 0, 1) := by decide +kernel
theorem dX7_coast_14 : decode cX7_coast 14 = .ok (.getfield 19, 3) := by decide +kernel
theorem dX7_coast_17 : decode cX7_coast 17 = .ok (.aload_n 0, 1) := by decide +kernel
theorem dX7_coast_18 : decode cX7_coast 18 = .ok (.getfield 10, 3) := by decide +kernel
theorem dX7_coast_21 : decode cX7_coast 21 = .ok (.invokevirtual 85, 3) := by decide +kernel
theorem dX7_coast_24 : decode cX7_coast 24 = .ok (.aload_n 0, 1) := by decide +kernel
theorem dX7_coast_25 : decode cX7_coast 25 = .ok (.getfield 28, 3) := by decide +kernel
theorem dX7_coast_28 : decode cX7_coast 28 = .ok (.aload_n 0, 1) := by decide +kernel
theorem dX7_coast_29 : decode cX7_coast 29 = .ok (.getfield 10, 3) := by decide +kernel
theorem dX7_coast_32 : decode cX7_coast 32 = .ok (.invokevirtual 89, 3) := by decide +kernel
theorem dX7_coast_35 : decode cX7_coast 35 = .ok (.aload_n 0, 1) := by decide +kernel
theorem dX7_coast_36 : decode cX7_coast 36 = .ok (.getfield 10, 3) := by decide +kernel
theorem dX7_coast_39 : decode cX7_coast 39 = .ok (.invokevirtual 75, 3) := by decide +kernel
theorem dX7_coast_42 : decode cX7_coast 42 = .ok (.pop, 1) := by decide +kernel
theorem dX7_coast_43 : decode cX7_coast 43 = .ok (.aload_n 0, 1) := by decide +kernel
theorem dX7_coast_44 : decode cX7_coast 44 = .ok (.getfield 35, 3) := by decide +kernel
theorem dX7_coast_47 : decode cX7_coast 47 = .ok (.invokevirtual 92, 3) := by decide +kernel
theorem dX7_coast_50 : decode cX7_coast 50 = .ok (.pop, 1) := by decide +kernel
theorem dX7_coast_51 : decode cX7_coast 51 = .ok (.aload_n 0, 1) := by decide +kernel
theorem dX7_coast_52 : decode cX7_coast 52 = .ok (.iconst 0, 1) := by decide +kernel
theorem dX7_coast_53 : decode cX7_coast 53 = .ok (.putfield 93, 3) := by decide +kernel
theorem dX7_coast_56 : decode cX7_coast 56 = .ok (.aload_n 0, 1) := by decide +kernel
theorem dX7_coast_57 : decode cX7_coast 57 = .ok (.dup, 1) := by decide +kernel
theorem dX7_coast_58 : decode cX7_coast 58 = .ok (.getfield 97, 3) := by decide +kernel
theorem dX7_coast_61 : decode cX7_coast 61 = .ok (.iconst 1, 1) := by decide +kernel
theorem dX7_coast_62 : decode cX7_coast 62 = .ok (.iadd, 1) := by decide +kernel
theorem dX7_coast_63 : decode cX7_coast 63 = .ok (.putfield 97, 3) := by decide +kernel
theorem dX7_coast_66 : decode cX7_coast 66 = .ok (.aload_n 0, 1) := by decide +kernel
theorem dX7_coast_67 : decode cX7_coast 67 = .ok (.getfield 19, 3) := by decide +kernel
theorem dX7_coast_70 : decode cX7_coast 70 = .ok (.getfield 101, 3) := by decide +kernel
theorem dX7_coast_73 : decode cX7_coast 73 = .ok (.ireturn, 1) := by decide +kernel
theorem dX7_river_0 : decode cX7_river 0 = .ok (.aload_n 0, 1) := by decide +kernel
theorem dX7_river_1 : decode cX7_river 1 = .ok (.getfield 19, 3) := by decide +kernel
theorem dX7_river_4 : decode cX7_river 4 = .ok (.iload_n 1, 1) := by decide +kernel
theorem dX7_river_5 : decode cX7_river 5 = .ok (.invokevirtual 104, 3) := by decide +kernel
theorem dX7_river_8 : decode cX7_river 8 = .ok (.ifCond .ne 6, 3) := by decide +kernel
theorem dX7_river_11 : decode cX7_river 11 = .ok (.bipush (-101), 2) := by decide +kernel
theorem dX7_river_13 : decode cX7_river 13 = .ok (.ireturn, 1) := by decide +kernel
theorem dX7_river_14 : decode cX7_river 14 = .ok (.iload_n 2, 1) := by decide +kernel
theorem dX7_river_15 : decode cX7_river 15 = .ok (.iconst 0, 1) := by decide +kernel
theorem dX7_river_16 : decode cX7_river 16 = .ok (.bipush 7, 2) := by decide +kernel
theorem dX7_river_18 : decode cX7_river 18 = .ok (.invokestatic 63, 3) := by decide +kernel
theorem dX7_river_21 : decode cX7_river 21 = .ok (.ifCond .ne 6, 3) := by decide +kernel
theorem dX7_river_24 : decode cX7_river 24 = .ok (.bipush (-102), 2) := by decide +kernel
theorem dX7_river_26 : decode cX7_river 26 = .ok (.ireturn, 1) := by decide +kernel
theorem dX7_river_27 : decode cX7_river 27 = .ok (.iload_n 2, 1) := by decide +kernel
theorem dX7_river_28 : decode cX7_river 28 = .ok (.tableswitch 111 0 6 #[44, 54, 64, 74, 83, 93, 102], 44) := by decide +kernel
theorem dX7_river_72 : decode cX7_river 72 = .ok (.aload_n 0, 1) := by decide +kernel
theorem dX7_river_73 : decode cX7_river 73 = .ok (.getfield 19, 3) := by decide +kernel
theorem dX7_river_76 : decode cX7_river 76 = .ok (.getfield 108, 3) := by decide +kernel
theorem dX7_river_79 : decode cX7_river 79 = .ok (.iload_n 1, 1) := by decide +kernel
theorem dX7_river_80 : decode cX7_river 80 = .ok (.iaload, 1) := by decide +kernel
theorem dX7_river_81 : decode cX7_river 81 = .ok (.ireturn, 1) := by decide +kernel
theorem dX7_river_82 : decode cX7_river 82 = .ok (.aload_n 0, 1) := by decide +kernel
theorem dX7_river_83 : decode cX7_river 83 = .ok (.getfield 28, 3) := by decide +kernel
theorem dX7_river_86 : decode cX7_river 86 = .ok (.getfield 112, 3) := by decide +kernel
theorem dX7_river_89 : decode cX7_river 89 = .ok (.iload_n 1, 1) := by decide +kernel
theorem dX7_river_90 : decode cX7_river 90 = .ok (.iaload, 1) := by decide +kernel
theorem dX7_river_91 : decode cX7_river 91 = .ok (.ireturn, 1) := by decide +kernel
theorem dX7_river_92 : decode cX7_river 92 = .ok (.aload_n 0, 1) := by decide +kernel
theorem dX7_river_93 : decode cX7_river 93 = .ok (.getfield 19, 3) := by decide +kernel
theorem dX7_river_96 : decode cX7_river 96 = .ok (.getfield 115, 3) := by decide +kernel
theorem dX7_river_99 : decode cX7_river 99 = .ok (.iload_n 1, 1) := by decide +kernel
theorem dX7_river_100 : decode cX7_river 100 = .ok (.iaload, 1) := by decide +kernel
theorem dX7_river_101 : decode cX7_river 101 = .ok (.ireturn, 1) := by decide +kernel
theorem dX7_river_102 : decode cX7_river 102 = .ok (.aload_n 0, 1) := by decide +kernel
theorem dX7_river_103 : decode cX7_river 103 = .ok (.getfield 28, 3) := by decide +kernel
theorem dX7_river_106 : decode cX7_river 106 = .ok (.iload_n 1, 1) := by decide +kernel
theorem dX7_river_107 : decode cX7_river 107 = .ok (.invokevirtual 118, 3) := by decide +kernel
theorem dX7_river_110 : decode cX7_river 110 = .ok (.ireturn, 1) := by decide +kernel
theorem dX7_river_111 : decode cX7_river 111 = .ok (.aload_n 0, 1) := by decide +kernel
theorem dX7_river_112 : decode cX7_river 112 = .ok (.getfield 28, 3) := by decide +kernel
theorem dX7_river_115 : decode cX7_river 115 = .ok (.getfield 121, 3) := by decide +kernel
theorem dX7_river_118 : decode cX7_river 118 = .ok (.iload_n 1, 1) := by decide +kernel
theorem dX7_river_119 : decode cX7_river 119 = .ok (.iaload, 1) := by decide +kernel
theorem dX7_river_120 : decode cX7_river 120 = .ok (.ireturn, 1) := by decide +kernel
theorem dX7_river_121 : decode cX7_river 121 = .ok (.aload_n 0, 1) := by decide +kernel
theorem dX7_river_122 : decode cX7_river 122 = .ok (.getfield 50, 3) := by decide +kernel
theorem dX7_river_125 : decode cX7_river 125 = .ok (.iload_n 1, 1) := by decide +kernel
theorem dX7_river_126 : decode cX7_river 126 = .ok (.invokevirtual 124, 3) := by decide +kernel
theorem dX7_river_129 : decode cX7_river 129 = .ok (.ireturn, 1) := by decide +kernel
theorem dX7_river_130 : decode cX7_river 130 = .ok (.aload_n 0, 1) := by decide +kernel
theorem dX7_river_131 : decode cX7_river 131 = .ok (.getfield 50, 3) := by decide +kernel
theorem dX7_river_134 : decode cX7_river 134 = .ok (.iload_n 1, 1) := by decide +kernel
theorem dX7_river_135 : decode cX7_river 135 = .ok (.invokevirtual 127, 3) := by decide +kernel
theorem dX7_river_138 : decode cX7_river 138 = .ok (.ireturn, 1) := by decide +kernel
theorem dX7_river_139 : decode cX7_river 139 = .ok (.aload_n 0, 1) := by decide +kernel
theorem dX7_river_140 : decode cX7_river 140 = .ok (.getfield 50, 3) := by decide +kernel
theorem dX7_river_143 : decode cX7_river 143 = .ok (.iload_n 1, 1) := by decide +kernel
theorem dX7_river_144 : decode cX7_river 144 = .ok (.invokevirtual 130, 3) := by decide +kernel
theorem dX7_river_147 : decode cX7_river 147 = .ok (.ireturn, 1) := by decide +kernel
theorem dX7_as_0 : decode cX7_as 0 = .ok (.aload_n 0, 1) := by decide +kernel
theorem dX7_as_1 : decode cX7_as 1 = .ok (.getfield 19, 3) := by decide +kernel
theorem dX7_as_4 : decode cX7_as 4 = .ok (.iload_n 1, 1) := by decide +kernel
theorem dX7_as_5 : decode cX7_as 5 = .ok (.invokevirtual 104, 3) := by decide +kernel
theorem dX7_as_8 : decode cX7_as 8 = .ok (.ifCond .ne 6, 3) := by decide +kernel
theorem dX7_as_11 : decode cX7_as 11 = .ok (.bipush (-101), 2) := by decide +kernel
theorem dX7_as_13 : decode cX7_as 13 = .ok (.ireturn, 1) := by decide +kernel
theorem dX7_as_14 : decode cX7_as 14 = .ok (.iload_n 2, 1) := by decide +kernel
theorem dX7_as_15 : decode cX7_as 15 = .ok (.iconst 0, 1) := by decide +kernel
theorem dX7_as_16 : decode cX7_as 16 = .ok (.iconst 4, 1) := by decide +kernel
theorem dX7_as_17 : decode cX7_as 17 = .ok (.invokestatic 63, 3) := by decide +kernel
theorem dX7_as_20 : decode cX7_as 20 = .ok (.ifCond .ne 6, 3) := by decide +kernel
theorem dX7_as_23 : decode cX7_as 23 = .ok (.bipush (-102), 2) := by decide +kernel
theorem dX7_as_25 : decode cX7_as 25 = .ok (.ireturn, 1) := by decide +kernel
theorem dX7_as_26 : decode cX7_as 26 = .ok (.aload_n 0, 1) := by decide +kernel
theorem dX7_as_27 : decode cX7_as 27 = .ok (.getfield 19, 3) := by decide +kernel
theorem dX7_as_30 : decode cX7_as 30 = .ok (.getfield 108, 3) := by decide +kernel
theorem dX7_as_33 : decode cX7_as 33 = .ok (.iload_n 1, 1) := by decide +kernel
theorem dX7_as_34 : decode cX7_as 34 = .ok (.iaload, 1) := by decide +kernel
theorem dX7_as_35 : decode cX7_as 35 = .ok (.iload_n 2, 1) := by decide +kernel
theorem dX7_as_36 : decode cX7_as 36 = .ok (.invokestatic 133, 3) := by decide +kernel
theorem dX7_as_39 : decode cX7_as 39 = .ok (.ifCond .eq 7, 3) := by decide +kernel
theorem dX7_as_42 : decode cX7_as 42 = .ok (.iload_n 1, 1) := by decide +kernel
theorem dX7_as_43 : decode cX7_as 43 = .ok (.goto 4, 3) := by decide +kernel
theorem dX7_as_46 : decode cX7_as 46 = .ok (.iconst (-1), 1) := by decide +kernel
theorem dX7_as_47 : decode cX7_as 47 = .ok (.ireturn, 1) := by decide +kernel
theorem dX7_row_0 : decode cX7_row 0 = .ok (.aload_n 0, 1) := by decide +kernel
theorem dX7_row_1 : decode cX7_row 1 = .ok (.getfield 19, 3) := by decide +kernel
theorem dX7_row_4 : decode cX7_row 4 = .ok (.iload_n 1, 1) := by decide +kernel
theorem dX7_row_5 : decode cX7_row 5 = .ok (.invokevirtual 104, 3) := by decide +kernel
theorem dX7_row_8 : decode cX7_row 8 = .ok (.ifCond .eq 15, 3) := by decide +kernel
theorem dX7_row_11 : decode cX7_row 11 = .ok (.aload_n 0, 1) := by decide +kernel
theorem dX7_row_12 : decode cX7_row 12 = .ok (.getfield 28, 3) := by decide +kernel
theorem dX7_row_15 : decode cX7_row 15 = .ok (.getfield 137, 3) := by decide +kernel
theorem dX7_row_18 : decode cX7_row 18 = .ok (.iload_n 1, 1) := by decide +kernel
theorem dX7_row_19 : decode cX7_row 19 = .ok (.iaload, 1) := by decide +kernel
theorem dX7_row_20 : decode cX7_row 20 = .ok (.goto 5, 3) := by decide +kernel
theorem dX7_row_23 : decode cX7_row 23 = .ok (.bipush (-101), 2) := by decide +kernel
theorem dX7_row_25 : decode cX7_row 25 = .ok (.ireturn, 1) := by decide +kernel
theorem dX7_hour_0 : decode cX7_hour 0 = .ok (.aload_n 0, 1) := by decide +kernel
theorem dX7_hour_1 : decode cX7_hour 1 = .ok (.getfield 19, 3) := by decide +kernel
theorem dX7_hour_4 : decode cX7_hour 4 = .ok (.invokevirtual 140, 3) := by decide +kernel
theorem dX7_hour_7 : decode cX7_hour 7 = .ok (.ifCond .eq 13, 3) := by decide +kernel
theorem dX7_hour_10 : decode cX7_hour 10 = .ok (.aload_n 0, 1) := by decide +kernel
theorem dX7_hour_11 : decode cX7_hour 11 = .ok (.getfield 28, 3) := by decide +kernel
theorem dX7_hour_14 : decode cX7_hour 14 = .ok (.invokevirtual 143, 3) := by decide +kernel
theorem dX7_hour_17 : decode cX7_hour 17 = .ok (.goto 5, 3) := by decide +kernel
theorem dX7_hour_20 : decode cX7_hour 20 = .ok (.bipush (-103), 2) := by decide +kernel
theorem dX7_hour_22 : decode cX7_hour 22 = .ok (.ireturn, 1) := by decide +kernel
theorem dX7_rain_0 : decode cX7_rain 0 = .ok (.aload_n 0, 1) := by decide +kernel
theorem dX7_rain_1 : decode cX7_rain 1 = .ok (.getfield 19, 3) := by decide +kernel
theorem dX7_rain_4 : decode cX7_rain 4 = .ok (.iload_n 1, 1) := by decide +kernel
theorem dX7_rain_5 : decode cX7_rain 5 = .ok (.invokevirtual 104, 3) := by decide +kernel
theorem dX7_rain_8 : decode cX7_rain 8 = .ok (.ifCond .ne 6, 3) := by decide +kernel
theorem dX7_rain_11 : decode cX7_rain 11 = .ok (.bipush (-101), 2) := by decide +kernel
theorem dX7_rain_13 : decode cX7_rain 13 = .ok (.ireturn, 1) := by decide +kernel
theorem dX7_rain_14 : decode cX7_rain 14 = .ok (.iload_n 2, 1) := by decide +kernel
theorem dX7_rain_15 : decode cX7_rain 15 = .ok (.iconst 1, 1) := by decide +kernel
theorem dX7_rain_16 : decode cX7_rain 16 = .ok (.bipush 50, 2) := by decide +kernel
theorem dX7_rain_18 : decode cX7_rain 18 = .ok (.invokestatic 63, 3) := by decide +kernel
theorem dX7_rain_21 : decode cX7_rain 21 = .ok (.ifCond .ne 6, 3) := by decide +kernel
theorem dX7_rain_24 : decode cX7_rain 24 = .ok (.bipush (-102), 2) := by decide +kernel
theorem dX7_rain_26 : decode cX7_rain 26 = .ok (.ireturn, 1) := by decide +kernel
theorem dX7_rain_27 : decode cX7_rain 27 = .ok (.aload_n 0, 1) := by decide +kernel
theorem dX7_rain_28 : decode cX7_rain 28 = .ok (.getfield 28, 3) := by decide +kernel
theorem dX7_rain_31 : decode cX7_rain 31 = .ok (.iload_n 1, 1) := by decide +kernel
theorem dX7_rain_32 : decode cX7_rain 32 = .ok (.iload_n 2, 1) := by decide +kernel
theorem dX7_rain_33 : decode cX7_rain 33 = .ok (.invokevirtual 146, 3) := by decide +kernel
theorem dX7_rain_36 : decode cX7_rain 36 = .ok (.ireturn, 1) := by decide +kernel
theorem dX7_drought_0 : decode cX7_drought 0 = .ok (.aload_n 0, 1) := by decide +kernel
theorem dX7_drought_1 : decode cX7_drought 1 = .ok (.getfield 19, 3) := by decide +kernel
theorem dX7_drought_4 : decode cX7_drought 4 = .ok (.iload_n 1, 1) := by decide +kernel
theorem dX7_drought_5 : decode cX7_drought 5 = .ok (.invokevirtual 104, 3) := by decide +kernel
theorem dX7_drought_8 : decode cX7_drought 8 = .ok (.ifCond .eq 14, 3) := by decide +kernel
theorem dX7_drought_11 : decode cX7_drought 11 = .ok (.aload_n 0, 1) := by decide +kernel
theorem dX7_drought_12 : decode cX7_drought 12 = .ok (.getfield 28, 3) := by decide +kernel
theorem dX7_drought_15 : decode cX7_drought 15 = .ok (.iload_n 1, 1) := by decide +kernel
theorem dX7_drought_16 : decode cX7_drought 16 = .ok (.invokevirtual 150, 3) := by decide +kernel
theorem dX7_drought_19 : decode cX7_drought 19 = .ok (.goto 5, 3) := by decide +kernel
theorem dX7_drought_22 : decode cX7_drought 22 = .ok (.bipush (-101), 2) := by decide +kernel
theorem dX7_drought_24 : decode cX7_drought 24 = .ok (.ireturn, 1) := by decide +kernel
theorem dX7_wide_0 : decode cX7_wide 0 = .ok (.iload_n 1, 1) := by decide +kernel
theorem dX7_wide_1 : decode cX7_wide 1 = .ok (.iconst 1, 1) := by decide +kernel
theorem dX7_wide_2 : decode cX7_wide 2 = .ok (.bipush 60, 2) := by decide +kernel
theorem dX7_wide_4 : decode cX7_wide 4 = .ok (.invokestatic 63, 3) := by decide +kernel
theorem dX7_wide_7 : decode cX7_wide 7 = .ok (.ifCond .eq 12, 3) := by decide +kernel
theorem dX7_wide_10 : decode cX7_wide 10 = .ok (.iload_n 2, 1) := by decide +kernel
theorem dX7_wide_11 : decode cX7_wide 11 = .ok (.iconst 0, 1) := by decide +kernel
theorem dX7_wide_12 : decode cX7_wide 12 = .ok (.iconst 1, 1) := by decide +kernel
theorem dX7_wide_13 : decode cX7_wide 13 = .ok (.invokestatic 63, 3) := by decide +kernel
theorem dX7_wide_16 : decode cX7_wide 16 = .ok (.ifCond .ne 6, 3) := by decide +kernel
theorem dX7_wide_19 : decode cX7_wide 19 = .ok (.bipush (-102), 2) := by decide +kernel
theorem dX7_wide_21 : decode cX7_wide 21 = .ok (.ireturn, 1) := by decide +kernel
theorem dX7_wide_22 : decode cX7_wide 22 = .ok (.aload_n 0, 1) := by decide +kernel
theorem dX7_wide_23 : decode cX7_wide 23 = .ok (.getfield 19, 3) := by decide +kernel
theorem dX7_wide_26 : decode cX7_wide 26 = .ok (.invokevirtual 140, 3) := by decide +kernel
theorem dX7_wide_29 : decode cX7_wide 29 = .ok (.ifCond .ne 6, 3) := by decide +kernel
theorem dX7_wide_32 : decode cX7_wide 32 = .ok (.bipush (-103), 2) := by decide +kernel
theorem dX7_wide_34 : decode cX7_wide 34 = .ok (.ireturn, 1) := by decide +kernel
theorem dX7_wide_35 : decode cX7_wide 35 = .ok (.aload_n 0, 1) := by decide +kernel
theorem dX7_wide_36 : decode cX7_wide 36 = .ok (.getfield 50, 3) := by decide +kernel
theorem dX7_wide_39 : decode cX7_wide 39 = .ok (.iload_n 1, 1) := by decide +kernel
theorem dX7_wide_40 : decode cX7_wide 40 = .ok (.invokevirtual 153, 3) := by decide +kernel
theorem dX7_wide_43 : decode cX7_wide 43 = .ok (.istore_n 3, 1) := by decide +kernel
theorem dX7_wide_44 : decode cX7_wide 44 = .ok (.iload_n 2, 1) := by decide +kernel
theorem dX7_wide_45 : decode cX7_wide 45 = .ok (.ifCond .ne 14, 3) := by decide +kernel
theorem dX7_wide_48 : decode cX7_wide 48 = .ok (.aload_n 0, 1) := by decide +kernel
theorem dX7_wide_49 : decode cX7_wide 49 = .ok (.getfield 50, 3) := by decide +kernel
theorem dX7_wide_52 : decode cX7_wide 52 = .ok (.iload_n 3, 1) := by decide +kernel
theorem dX7_wide_53 : decode cX7_wide 53 = .ok (.invokevirtual 156, 3) := by decide +kernel
theorem dX7_wide_56 : decode cX7_wide 56 = .ok (.goto 4, 3) := by decide +kernel
theorem dX7_wide_59 : decode cX7_wide 59 = .ok (.iload_n 3, 1) := by decide +kernel
theorem dX7_wide_60 : decode cX7_wide 60 = .ok (.ireturn, 1) := by decide +kernel
theorem dX7_best_0 : decode cX7_best 0 = .ok (.iload_n 1, 1) := by decide +kernel
theorem dX7_best_1 : decode cX7_best 1 = .ok (.bipush 10, 2) := by decide +kernel
theorem dX7_best_3 : decode cX7_best 3 = .ok (.isub, 1) := by decide +kernel
theorem dX7_best_4 : decode cX7_best 4 = .ok (.istore_n 2, 1) := by decide +kernel
theorem dX7_best_5 : decode cX7_best 5 = .ok (.iload_n 1, 1) := by decide +kernel
theorem dX7_best_6 : decode cX7_best 6 = .ok (.ifCond .eq 15, 3) := by decide +kernel
theorem dX7_best_9 : decode cX7_best 9 = .ok (.iload_n 2, 1) := by decide +kernel
theorem dX7_best_10 : decode cX7_best 10 = .ok (.iconst 0, 1) := by decide +kernel
theorem dX7_best_11 : decode cX7_best 11 = .ok (.iconst 4, 1) := by decide +kernel
theorem dX7_best_12 : decode cX7_best 12 = .ok (.invokestatic 63, 3) := by decide +kernel
theorem dX7_best_15 : decode cX7_best 15 = .ok (.ifCond .ne 6, 3) := by decide +kernel
theorem dX7_best_18 : decode cX7_best 18 = .ok (.bipush (-102), 2) := by decide +kernel
theorem dX7_best_20 : decode cX7_best 20 = .ok (.ireturn, 1) := by decide +kernel
theorem dX7_best_21 : decode cX7_best 21 = .ok (.aload_n 0, 1) := by decide +kernel
theorem dX7_best_22 : decode cX7_best 22 = .ok (.getfield 19, 3) := by decide +kernel
theorem dX7_best_25 : decode cX7_best 25 = .ok (.invokevirtual 140, 3) := by decide +kernel
theorem dX7_best_28 : decode cX7_best 28 = .ok (.ifCond .eq 12, 3) := by decide +kernel
theorem dX7_best_31 : decode cX7_best 31 = .ok (.aload_n 0, 1) := by decide +kernel
theorem dX7_best_32 : decode cX7_best 32 = .ok (.getfield 159, 3) := by decide +kernel
theorem dX7_best_35 : decode cX7_best 35 = .ok (.bipush 30, 2) := by decide +kernel
theorem dX7_best_37 : decode cX7_best 37 = .ok (.if_icmp .lt 6, 3) := by decide +kernel
theorem dX7_best_40 : decode cX7_best 40 = .ok (.bipush (-103), 2) := by decide +kernel
theorem dX7_best_42 : decode cX7_best 42 = .ok (.ireturn, 1) := by decide +kernel
theorem dX7_best_43 : decode cX7_best 43 = .ok (.aload_n 0, 1) := by decide +kernel
theorem dX7_best_44 : decode cX7_best 44 = .ok (.dup, 1) := by decide +kernel
theorem dX7_best_45 : decode cX7_best 45 = .ok (.getfield 159, 3) := by decide +kernel
theorem dX7_best_48 : decode cX7_best 48 = .ok (.iconst 1, 1) := by decide +kernel
theorem dX7_best_49 : decode cX7_best 49 = .ok (.iadd, 1) := by decide +kernel
theorem dX7_best_50 : decode cX7_best 50 = .ok (.putfield 159, 3) := by decide +kernel
theorem dX7_best_53 : decode cX7_best 53 = .ok (.aload_n 0, 1) := by decide +kernel
theorem dX7_best_54 : decode cX7_best 54 = .ok (.getfield 59, 3) := by decide +kernel
theorem dX7_best_57 : decode cX7_best 57 = .ok (.invokevirtual 162, 3) := by decide +kernel
theorem dX7_best_60 : decode cX7_best 60 = .ok (.iload_n 1, 1) := by decide +kernel
theorem dX7_best_61 : decode cX7_best 61 = .ok (.ifCond .ne 11, 3) := by decide +kernel
theorem dX7_best_64 : decode cX7_best 64 = .ok (.aload_n 0, 1) := by decide +kernel
theorem dX7_best_65 : decode cX7_best 65 = .ok (.getfield 59, 3) := by decide +kernel
theorem dX7_best_68 : decode cX7_best 68 = .ok (.getfield 165, 3) := by decide +kernel
theorem dX7_best_71 : decode cX7_best 71 = .ok (.ireturn, 1) := by decide +kernel
theorem dX7_best_72 : decode cX7_best 72 = .ok (.aload_n 0, 1) := by decide +kernel
theorem dX7_best_73 : decode cX7_best 73 = .ok (.getfield 19, 3) := by decide +kernel
theorem dX7_best_76 : decode cX7_best 76 = .ok (.iload_n 2, 1) := by decide +kernel
theorem dX7_best_77 : decode cX7_best 77 = .ok (.invokevirtual 104, 3) := by decide +kernel
theorem dX7_best_80 : decode cX7_best 80 = .ok (.ifCond .eq 15, 3) := by decide +kernel
theorem dX7_best_83 : decode cX7_best 83 = .ok (.aload_n 0, 1) := by decide +kernel
theorem dX7_best_84 : decode cX7_best 84 = .ok (.getfield 59, 3) := by decide +kernel
theorem dX7_best_87 : decode cX7_best 87 = .ok (.getfield 168, 3) := by decide +kernel
theorem dX7_best_90 : decode cX7_best 90 = .ok (.iload_n 2, 1) := by decide +kernel
theorem dX7_best_91 : decode cX7_best 91 = .ok (.iaload, 1) := by decide +kernel
theorem dX7_best_92 : decode cX7_best 92 = .ok (.goto 4, 3) := by decide +kernel
theorem dX7_best_95 : decode cX7_best 95 = .ok (.iconst (-1), 1) := by decide +kernel
theorem dX7_best_96 : decode cX7_best 96 = .ok (.ireturn, 1) := by decide +kernel
theorem dX7_see_0 : decode cX7_see 0 = .ok (.iload_n 1, 1) := by decide +kernel
theorem dX7_see_1 : decode cX7_see 1 = .ok (.iconst 1, 1) := by decide +kernel
theorem dX7_see_2 : decode cX7_see 2 = .ok (.bipush 12, 2) := by decide +kernel
theorem dX7_see_4 : decode cX7_see 4 = .ok (.invokestatic 63, 3) := by decide +kernel
theorem dX7_see_7 : decode cX7_see 7 = .ok (.ifCond .ne 6, 3) := by decide +kernel
theorem dX7_see_10 : decode cX7_see 10 = .ok (.bipush (-102), 2) := by decide +kernel
theorem dX7_see_12 : decode cX7_see 12 = .ok (.ireturn, 1) := by decide +kernel
theorem dX7_see_13 : decode cX7_see 13 = .ok (.aload_n 0, 1) := by decide +kernel
theorem dX7_see_14 : decode cX7_see 14 = .ok (.getfield 19, 3) := by decide +kernel
theorem dX7_see_17 : decode cX7_see 17 = .ok (.iload_n 2, 1) := by decide +kernel
theorem dX7_see_18 : decode cX7_see 18 = .ok (.invokevirtual 104, 3) := by decide +kernel
theorem dX7_see_21 : decode cX7_see 21 = .ok (.ifCond .ne 6, 3) := by decide +kernel
theorem dX7_see_24 : decode cX7_see 24 = .ok (.bipush (-101), 2) := by decide +kernel
theorem dX7_see_26 : decode cX7_see 26 = .ok (.ireturn, 1) := by decide +kernel
theorem dX7_see_27 : decode cX7_see 27 = .ok (.aload_n 0, 1) := by decide +kernel
theorem dX7_see_28 : decode cX7_see 28 = .ok (.getfield 35, 3) := by decide +kernel
theorem dX7_see_31 : decode cX7_see 31 = .ok (.invokevirtual 171, 3) := by decide +kernel
theorem dX7_see_34 : decode cX7_see 34 = .ok (.ifCond .eq 6, 3) := by decide +kernel
theorem dX7_see_37 : decode cX7_see 37 = .ok (.bipush (-104), 2) := by decide +kernel
theorem dX7_see_39 : decode cX7_see 39 = .ok (.ireturn, 1) := by decide +kernel
theorem dX7_see_40 : decode cX7_see 40 = .ok (.aload_n 0, 1) := by decide +kernel
theorem dX7_see_41 : decode cX7_see 41 = .ok (.getfield 35, 3) := by decide +kernel
theorem dX7_see_44 : decode cX7_see 44 = .ok (.iload_n 1, 1) := by decide +kernel
theorem dX7_see_45 : decode cX7_see 45 = .ok (.iload_n 2, 1) := by decide +kernel
theorem dX7_see_46 : decode cX7_see 46 = .ok (.iload_n 3, 1) := by decide +kernel
theorem dX7_see_47 : decode cX7_see 47 = .ok (.invokevirtual 172, 3) := by decide +kernel
theorem dX7_see_50 : decode cX7_see 50 = .ok (.ireturn, 1) := by decide +kernel
theorem dX7_forget_0 : decode cX7_forget 0 = .ok (.aload_n 0, 1) := by decide +kernel
theorem dX7_forget_1 : decode cX7_forget 1 = .ok (.getfield 35, 3) := by decide +kernel
theorem dX7_forget_4 : decode cX7_forget 4 = .ok (.invokevirtual 92, 3) := by decide +kernel
theorem dX7_forget_7 : decode cX7_forget 7 = .ok (.ireturn, 1) := by decide +kernel
theorem dX7_seasons_0 : decode cX7_seasons 0 = .ok (.iload_n 1, 1) := by decide +kernel
theorem dX7_seasons_1 : decode cX7_seasons 1 = .ok (.iconst 1, 1) := by decide +kernel
theorem dX7_seasons_2 : decode cX7_seasons 2 = .ok (.bipush 60, 2) := by decide +kernel
theorem dX7_seasons_4 : decode cX7_seasons 4 = .ok (.invokestatic 63, 3) := by decide +kernel
theorem dX7_seasons_7 : decode cX7_seasons 7 = .ok (.ifCond .eq 16, 3) := by decide +kernel
theorem dX7_seasons_10 : decode cX7_seasons 10 = .ok (.iload_n 2, 1) := by decide +kernel
theorem dX7_seasons_11 : decode cX7_seasons 11 = .ok (.ifCond .lt 12, 3) := by decide +kernel
theorem dX7_seasons_14 : decode cX7_seasons 14 = .ok (.iload_n 3, 1) := by decide +kernel
theorem dX7_seasons_15 : decode cX7_seasons 15 = .ok (.iconst 0, 1) := by decide +kernel
theorem dX7_seasons_16 : decode cX7_seasons 16 = .ok (.iconst 2, 1) := by decide +kernel
theorem dX7_seasons_17 : decode cX7_seasons 17 = .ok (.invokestatic 63, 3) := by decide +kernel
theorem dX7_seasons_20 : decode cX7_seasons 20 = .ok (.ifCond .ne 6, 3) := by decide +kernel
theorem dX7_seasons_23 : decode cX7_seasons 23 = .ok (.bipush (-102), 2) := by decide +kernel
theorem dX7_seasons_25 : decode cX7_seasons 25 = .ok (.ireturn, 1) := by decide +kernel
theorem dX7_seasons_26 : decode cX7_seasons 26 = .ok (.aload_n 0, 1) := by decide +kernel
theorem dX7_seasons_27 : decode cX7_seasons 27 = .ok (.getfield 19, 3) := by decide +kernel
theorem dX7_seasons_30 : decode cX7_seasons 30 = .ok (.invokevirtual 140, 3) := by decide +kernel
theorem dX7_seasons_33 : decode cX7_seasons 33 = .ok (.ifCond .ne 6, 3) := by decide +kernel
theorem dX7_seasons_36 : decode cX7_seasons 36 = .ok (.bipush (-103), 2) := by decide +kernel
theorem dX7_seasons_38 : decode cX7_seasons 38 = .ok (.ireturn, 1) := by decide +kernel
theorem dX7_seasons_39 : decode cX7_seasons 39 = .ok (.aload_n 0, 1) := by decide +kernel
theorem dX7_seasons_40 : decode cX7_seasons 40 = .ok (.getfield 50, 3) := by decide +kernel
theorem dX7_seasons_43 : decode cX7_seasons 43 = .ok (.iload_n 1, 1) := by decide +kernel
theorem dX7_seasons_44 : decode cX7_seasons 44 = .ok (.iload_n 2, 1) := by decide +kernel
theorem dX7_seasons_45 : decode cX7_seasons 45 = .ok (.invokevirtual 176, 3) := by decide +kernel
theorem dX7_seasons_48 : decode cX7_seasons 48 = .ok (.istore 4, 2) := by decide +kernel
theorem dX7_seasons_50 : decode cX7_seasons 50 = .ok (.iload_n 3, 1) := by decide +kernel
theorem dX7_seasons_51 : decode cX7_seasons 51 = .ok (.lookupswitch 39 #[(0, 25), (1, 28)], 25) := by decide +kernel
theorem dX7_seasons_76 : decode cX7_seasons 76 = .ok (.iload 4, 2) := by decide +kernel
theorem dX7_seasons_78 : decode cX7_seasons 78 = .ok (.ireturn, 1) := by decide +kernel
theorem dX7_seasons_79 : decode cX7_seasons 79 = .ok (.aload_n 0, 1) := by decide +kernel
theorem dX7_seasons_80 : decode cX7_seasons 80 = .ok (.getfield 50, 3) := by decide +kernel
theorem dX7_seasons_83 : decode cX7_seasons 83 = .ok (.getfield 179, 3) := by decide +kernel
theorem dX7_seasons_86 : decode cX7_seasons 86 = .ok (.invokevirtual 182, 3) := by decide +kernel
theorem dX7_seasons_89 : decode cX7_seasons 89 = .ok (.ireturn, 1) := by decide +kernel
theorem dX7_seasons_90 : decode cX7_seasons 90 = .ok (.aload_n 0, 1) := by decide +kernel
theorem dX7_seasons_91 : decode cX7_seasons 91 = .ok (.getfield 50, 3) := by decide +kernel
theorem dX7_seasons_94 : decode cX7_seasons 94 = .ok (.getfield 185, 3) := by decide +kernel
theorem dX7_seasons_97 : decode cX7_seasons 97 = .ok (.getfield 189, 3) := by decide +kernel
theorem dX7_seasons_100 : decode cX7_seasons 100 = .ok (.ireturn, 1) := by decide +kernel
theorem dX7_image_0 : decode cX7_image 0 = .ok (.aload_n 0, 1) := by decide +kernel
theorem dX7_image_1 : decode cX7_image 1 = .ok (.getfield 19, 3) := by decide +kernel
theorem dX7_image_4 : decode cX7_image 4 = .ok (.invokevirtual 140, 3) := by decide +kernel
theorem dX7_image_7 : decode cX7_image 7 = .ok (.ifCond .ne 6, 3) := by decide +kernel
theorem dX7_image_10 : decode cX7_image 10 = .ok (.bipush (-103), 2) := by decide +kernel
theorem dX7_image_12 : decode cX7_image 12 = .ok (.ireturn, 1) := by decide +kernel
theorem dX7_image_13 : decode cX7_image 13 = .ok (.aload_n 0, 1) := by decide +kernel
theorem dX7_image_14 : decode cX7_image 14 = .ok (.getfield 39, 3) := by decide +kernel
theorem dX7_image_17 : decode cX7_image 17 = .ok (.aload_n 0, 1) := by decide +kernel
theorem dX7_image_18 : decode cX7_image 18 = .ok (.getfield 28, 3) := by decide +kernel
theorem dX7_image_21 : decode cX7_image 21 = .ok (.invokevirtual 194, 3) := by decide +kernel
theorem dX7_image_24 : decode cX7_image 24 = .ok (.aload_n 0, 1) := by decide +kernel
theorem dX7_image_25 : decode cX7_image 25 = .ok (.getfield 42, 3) := by decide +kernel
theorem dX7_image_28 : decode cX7_image 28 = .ok (.aload_n 0, 1) := by decide +kernel
theorem dX7_image_29 : decode cX7_image 29 = .ok (.getfield 35, 3) := by decide +kernel
theorem dX7_image_32 : decode cX7_image 32 = .ok (.invokevirtual 198, 3) := by decide +kernel
theorem dX7_image_35 : decode cX7_image 35 = .ok (.aload_n 0, 1) := by decide +kernel
theorem dX7_image_36 : decode cX7_image 36 = .ok (.iconst 1, 1) := by decide +kernel
theorem dX7_image_37 : decode cX7_image 37 = .ok (.putfield 93, 3) := by decide +kernel
theorem dX7_image_40 : decode cX7_image 40 = .ok (.aload_n 0, 1) := by decide +kernel
theorem dX7_image_41 : decode cX7_image 41 = .ok (.getfield 28, 3) := by decide +kernel
theorem dX7_image_44 : decode cX7_image 44 = .ok (.getfield 201, 3) := by decide +kernel
theorem dX7_image_47 : decode cX7_image 47 = .ok (.ireturn, 1) := by decide +kernel
theorem dX7_restore_0 : decode cX7_restore 0 = .ok (.aload_n 0, 1) := by decide +kernel
theorem dX7_restore_1 : decode cX7_restore 1 = .ok (.getfield 93, 3) := by decide +kernel
theorem dX7_restore_4 : decode cX7_restore 4 = .ok (.ifCond .ne 6, 3) := by decide +kernel
theorem dX7_restore_7 : decode cX7_restore 7 = .ok (.bipush (-103), 2) := by decide +kernel
theorem dX7_restore_9 : decode cX7_restore 9 = .ok (.ireturn, 1) := by decide +kernel
theorem dX7_restore_10 : decode cX7_restore 10 = .ok (.aload_n 0, 1) := by decide +kernel
theorem dX7_restore_11 : decode cX7_restore 11 = .ok (.getfield 28, 3) := by decide +kernel
theorem dX7_restore_14 : decode cX7_restore 14 = .ok (.aload_n 0, 1) := by decide +kernel
theorem dX7_restore_15 : decode cX7_restore 15 = .ok (.getfield 39, 3) := by decide +kernel
theorem dX7_restore_18 : decode cX7_restore 18 = .ok (.invokevirtual 194, 3) := by decide +kernel
theorem dX7_restore_21 : decode cX7_restore 21 = .ok (.aload_n 0, 1) := by decide +kernel
theorem dX7_restore_22 : decode cX7_restore 22 = .ok (.getfield 35, 3) := by decide +kernel
theorem dX7_restore_25 : decode cX7_restore 25 = .ok (.aload_n 0, 1) := by decide +kernel
theorem dX7_restore_26 : decode cX7_restore 26 = .ok (.getfield 42, 3) := by decide +kernel
theorem dX7_restore_29 : decode cX7_restore 29 = .ok (.invokevirtual 198, 3) := by decide +kernel
theorem dX7_restore_32 : decode cX7_restore 32 = .ok (.aload_n 0, 1) := by decide +kernel
theorem dX7_restore_33 : decode cX7_restore 33 = .ok (.getfield 28, 3) := by decide +kernel
theorem dX7_restore_36 : decode cX7_restore 36 = .ok (.getfield 201, 3) := by decide +kernel
theorem dX7_restore_39 : decode cX7_restore 39 = .ok (.ireturn, 1) := by decide +kernel
theorem dX7_count_0 : decode cX7_count 0 = .ok (.iload_n 1, 1) := by decide +kernel
theorem dX7_count_1 : decode cX7_count 1 = .ok (.tableswitch 117 0 8 #[51, 59, 67, 75, 83, 91, 99, 107, 112], 51) := by decide +kernel
theorem dX7_count_52 : decode cX7_count 52 = .ok (.aload_n 0, 1) := by decide +kernel
theorem dX7_count_53 : decode cX7_count 53 = .ok (.getfield 19, 3) := by decide +kernel
theorem dX7_count_56 : decode cX7_count 56 = .ok (.getfield 101, 3) := by decide +kernel
theorem dX7_count_59 : decode cX7_count 59 = .ok (.ireturn, 1) := by decide +kernel
theorem dX7_count_60 : decode cX7_count 60 = .ok (.aload_n 0, 1) := by decide +kernel
theorem dX7_count_61 : decode cX7_count 61 = .ok (.getfield 19, 3) := by decide +kernel
theorem dX7_count_64 : decode cX7_count 64 = .ok (.getfield 204, 3) := by decide +kernel
theorem dX7_count_67 : decode cX7_count 67 = .ok (.ireturn, 1) := by decide +kernel
theorem dX7_count_68 : decode cX7_count 68 = .ok (.aload_n 0, 1) := by decide +kernel
theorem dX7_count_69 : decode cX7_count 69 = .ok (.getfield 28, 3) := by decide +kernel
theorem dX7_count_72 : decode cX7_count 72 = .ok (.invokevirtual 182, 3) := by decide +kernel
theorem dX7_count_75 : decode cX7_count 75 = .ok (.ireturn, 1) := by decide +kernel
theorem dX7_count_76 : decode cX7_count 76 = .ok (.aload_n 0, 1) := by decide +kernel
theorem dX7_count_77 : decode cX7_count 77 = .ok (.getfield 28, 3) := by decide +kernel
theorem dX7_count_80 : decode cX7_count 80 = .ok (.getfield 201, 3) := by decide +kernel
theorem dX7_count_83 : decode cX7_count 83 = .ok (.ireturn, 1) := by decide +kernel
theorem dX7_count_84 : decode cX7_count 84 = .ok (.aload_n 0, 1) := by decide +kernel
theorem dX7_count_85 : decode cX7_count 85 = .ok (.getfield 28, 3) := by decide +kernel
theorem dX7_count_88 : decode cX7_count 88 = .ok (.invokevirtual 207, 3) := by decide +kernel
theorem dX7_count_91 : decode cX7_count 91 = .ok (.ireturn, 1) := by decide +kernel
theorem dX7_count_92 : decode cX7_count 92 = .ok (.aload_n 0, 1) := by decide +kernel
theorem dX7_count_93 : decode cX7_count 93 = .ok (.getfield 35, 3) := by decide +kernel
theorem dX7_count_96 : decode cX7_count 96 = .ok (.getfield 210, 3) := by decide +kernel
theorem dX7_count_99 : decode cX7_count 99 = .ok (.ireturn, 1) := by decide +kernel
theorem dX7_count_100 : decode cX7_count 100 = .ok (.aload_n 0, 1) := by decide +kernel
theorem dX7_count_101 : decode cX7_count 101 = .ok (.getfield 10, 3) := by decide +kernel
theorem dX7_count_104 : decode cX7_count 104 = .ok (.getfield 213, 3) := by decide +kernel
theorem dX7_count_107 : decode cX7_count 107 = .ok (.ireturn, 1) := by decide +kernel
theorem dX7_count_108 : decode cX7_count 108 = .ok (.aload_n 0, 1) := by decide +kernel
theorem dX7_count_109 : decode cX7_count 109 = .ok (.getfield 97, 3) := by decide +kernel
theorem dX7_count_112 : decode cX7_count 112 = .ok (.ireturn, 1) := by decide +kernel
theorem dX7_count_113 : decode cX7_count 113 = .ok (.aload_n 0, 1) := by decide +kernel
theorem dX7_count_114 : decode cX7_count 114 = .ok (.getfield 159, 3) := by decide +kernel
theorem dX7_count_117 : decode cX7_count 117 = .ok (.ireturn, 1) := by decide +kernel
theorem dX7_count_118 : decode cX7_count 118 = .ok (.bipush (-102), 2) := by decide +kernel
theorem dX7_count_120 : decode cX7_count 120 = .ok (.ireturn, 1) := by decide +kernel
theorem dX7_digest_0 : decode cX7_digest 0 = .ok (.ldc2_w 214, 3) := by decide +kernel
theorem dX7_digest_3 : decode cX7_digest 3 = .ok (.lstore_n 1, 1) := by decide +kernel
theorem dX7_digest_4 : decode cX7_digest 4 = .ok (.iconst 0, 1) := by decide +kernel
theorem dX7_digest_5 : decode cX7_digest 5 = .ok (.istore_n 3, 1) := by decide +kernel
theorem dX7_digest_6 : decode cX7_digest 6 = .ok (.iload_n 3, 1) := by decide +kernel
theorem dX7_digest_7 : decode cX7_digest 7 = .ok (.aload_n 0, 1) := by decide +kernel
theorem dX7_digest_8 : decode cX7_digest 8 = .ok (.getfield 19, 3) := by decide +kernel
theorem dX7_digest_11 : decode cX7_digest 11 = .ok (.getfield 101, 3) := by decide +kernel
theorem dX7_digest_14 : decode cX7_digest 14 = .ok (.if_icmp .ge 38, 3) := by decide +kernel
theorem dX7_digest_17 : decode cX7_digest 17 = .ok (.iconst 0, 1) := by decide +kernel
theorem dX7_digest_18 : decode cX7_digest 18 = .ok (.istore 4, 2) := by decide +kernel
theorem dX7_digest_20 : decode cX7_digest 20 = .ok (.iload 4, 2) := by decide +kernel
theorem dX7_digest_22 : decode cX7_digest 22 = .ok (.bipush 7, 2) := by decide +kernel
theorem dX7_digest_24 : decode cX7_digest 24 = .ok (.if_icmp .gt 22, 3) := by decide +kernel
theorem dX7_digest_27 : decode cX7_digest 27 = .ok (.lload_n 1, 1) := by decide +kernel
theorem dX7_digest_28 : decode cX7_digest 28 = .ok (.aload_n 0, 1) := by decide +kernel
theorem dX7_digest_29 : decode cX7_digest 29 = .ok (.iload_n 3, 1) := by decide +kernel
theorem dX7_digest_30 : decode cX7_digest 30 = .ok (.iload 4, 2) := by decide +kernel
theorem dX7_digest_32 : decode cX7_digest 32 = .ok (.invokevirtual 216, 3) := by decide +kernel
theorem dX7_digest_35 : decode cX7_digest 35 = .ok (.i2l, 1) := by decide +kernel
theorem dX7_digest_36 : decode cX7_digest 36 = .ok (.invokestatic 219, 3) := by decide +kernel
theorem dX7_digest_39 : decode cX7_digest 39 = .ok (.lstore_n 1, 1) := by decide +kernel
theorem dX7_digest_40 : decode cX7_digest 40 = .ok (.iinc 4 1, 3) := by decide +kernel
theorem dX7_digest_43 : decode cX7_digest 43 = .ok (.goto (-23), 3) := by decide +kernel
theorem dX7_digest_46 : decode cX7_digest 46 = .ok (.iinc 3 1, 3) := by decide +kernel
theorem dX7_digest_49 : decode cX7_digest 49 = .ok (.goto (-43), 3) := by decide +kernel
theorem dX7_digest_52 : decode cX7_digest 52 = .ok (.iconst 0, 1) := by decide +kernel
theorem dX7_digest_53 : decode cX7_digest 53 = .ok (.istore_n 3, 1) := by decide +kernel
theorem dX7_digest_54 : decode cX7_digest 54 = .ok (.iload_n 3, 1) := by decide +kernel
theorem dX7_digest_55 : decode cX7_digest 55 = .ok (.aload_n 0, 1) := by decide +kernel
theorem dX7_digest_56 : decode cX7_digest 56 = .ok (.getfield 19, 3) := by decide +kernel
theorem dX7_digest_59 : decode cX7_digest 59 = .ok (.getfield 101, 3) := by decide +kernel
theorem dX7_digest_62 : decode cX7_digest 62 = .ok (.if_icmp .ge 20, 3) := by decide +kernel
theorem dX7_digest_65 : decode cX7_digest 65 = .ok (.lload_n 1, 1) := by decide +kernel
theorem dX7_digest_66 : decode cX7_digest 66 = .ok (.aload_n 0, 1) := by decide +kernel
theorem dX7_digest_67 : decode cX7_digest 67 = .ok (.iload_n 3, 1) := by decide +kernel
theorem dX7_digest_68 : decode cX7_digest 68 = .ok (.invokevirtual 223, 3) := by decide +kernel
theorem dX7_digest_71 : decode cX7_digest 71 = .ok (.i2l, 1) := by decide +kernel
theorem dX7_digest_72 : decode cX7_digest 72 = .ok (.invokestatic 219, 3) := by decide +kernel
theorem dX7_digest_75 : decode cX7_digest 75 = .ok (.lstore_n 1, 1) := by decide +kernel
theorem dX7_digest_76 : decode cX7_digest 76 = .ok (.iinc 3 1, 3) := by decide +kernel
theorem dX7_digest_79 : decode cX7_digest 79 = .ok (.goto (-25), 3) := by decide +kernel
theorem dX7_digest_82 : decode cX7_digest 82 = .ok (.aload_n 0, 1) := by decide +kernel
theorem dX7_digest_83 : decode cX7_digest 83 = .ok (.getfield 19, 3) := by decide +kernel
theorem dX7_digest_86 : decode cX7_digest 86 = .ok (.invokevirtual 140, 3) := by decide +kernel
theorem dX7_digest_89 : decode cX7_digest 89 = .ok (.ifCond .eq 29, 3) := by decide +kernel
theorem dX7_digest_92 : decode cX7_digest 92 = .ok (.lload_n 1, 1) := by decide +kernel
theorem dX7_digest_93 : decode cX7_digest 93 = .ok (.aload_n 0, 1) := by decide +kernel
theorem dX7_digest_94 : decode cX7_digest 94 = .ok (.bipush 12, 2) := by decide +kernel
theorem dX7_digest_96 : decode cX7_digest 96 = .ok (.iconst 0, 1) := by decide +kernel
theorem dX7_digest_97 : decode cX7_digest 97 = .ok (.invokevirtual 225, 3) := by decide +kernel
theorem dX7_digest_100 : decode cX7_digest 100 = .ok (.i2l, 1) := by decide +kernel
theorem dX7_digest_101 : decode cX7_digest 101 = .ok (.invokestatic 219, 3) := by decide +kernel
theorem dX7_digest_104 : decode cX7_digest 104 = .ok (.lstore_n 1, 1) := by decide +kernel
theorem dX7_digest_105 : decode cX7_digest 105 = .ok (.lload_n 1, 1) := by decide +kernel
theorem dX7_digest_106 : decode cX7_digest 106 = .ok (.aload_n 0, 1) := by decide +kernel
theorem dX7_digest_107 : decode cX7_digest 107 = .ok (.bipush 12, 2) := by decide +kernel
theorem dX7_digest_109 : decode cX7_digest 109 = .ok (.iconst 1, 1) := by decide +kernel
theorem dX7_digest_110 : decode cX7_digest 110 = .ok (.invokevirtual 225, 3) := by decide +kernel
theorem dX7_digest_113 : decode cX7_digest 113 = .ok (.i2l, 1) := by decide +kernel
theorem dX7_digest_114 : decode cX7_digest 114 = .ok (.invokestatic 219, 3) := by decide +kernel
theorem dX7_digest_117 : decode cX7_digest 117 = .ok (.lstore_n 1, 1) := by decide +kernel
theorem dX7_digest_118 : decode cX7_digest 118 = .ok (.iconst 0, 1) := by decide +kernel
theorem dX7_digest_119 : decode cX7_digest 119 = .ok (.istore_n 3, 1) := by decide +kernel
theorem dX7_digest_120 : decode cX7_digest 120 = .ok (.iload_n 3, 1) := by decide +kernel
theorem dX7_digest_121 : decode cX7_digest 121 = .ok (.aload_n 0, 1) := by decide +kernel
theorem dX7_digest_122 : decode cX7_digest 122 = .ok (.getfield 10, 3) := by decide +kernel
theorem dX7_digest_125 : decode cX7_digest 125 = .ok (.getfield 213, 3) := by decide +kernel
theorem dX7_digest_128 : decode cX7_digest 128 = .ok (.if_icmp .ge 24, 3) := by decide +kernel
theorem dX7_digest_131 : decode cX7_digest 131 = .ok (.lload_n 1, 1) := by decide +kernel
theorem dX7_digest_132 : decode cX7_digest 132 = .ok (.aload_n 0, 1) := by decide +kernel
theorem dX7_digest_133 : decode cX7_digest 133 = .ok (.getfield 10, 3) := by decide +kernel
theorem dX7_digest_136 : decode cX7_digest 136 = .ok (.getfield 228, 3) := by decide +kernel
theorem dX7_digest_139 : decode cX7_digest 139 = .ok (.iload_n 3, 1) := by decide +kernel
theorem dX7_digest_140 : decode cX7_digest 140 = .ok (.iaload, 1) := by decide +kernel
theorem dX7_digest_141 : decode cX7_digest 141 = .ok (.i2l, 1) := by decide +kernel
theorem dX7_digest_142 : decode cX7_digest 142 = .ok (.invokestatic 219, 3) := by decide +kernel
theorem dX7_digest_145 : decode cX7_digest 145 = .ok (.lstore_n 1, 1) := by decide +kernel
theorem dX7_digest_146 : decode cX7_digest 146 = .ok (.iinc 3 1, 3) := by decide +kernel
theorem dX7_digest_149 : decode cX7_digest 149 = .ok (.goto (-29), 3) := by decide +kernel
theorem dX7_digest_152 : decode cX7_digest 152 = .ok (.iconst 0, 1) := by decide +kernel
theorem dX7_digest_153 : decode cX7_digest 153 = .ok (.istore_n 3, 1) := by decide +kernel
theorem dX7_digest_154 : decode cX7_digest 154 = .ok (.iload_n 3, 1) := by decide +kernel
theorem dX7_digest_155 : decode cX7_digest 155 = .ok (.bipush 8, 2) := by decide +kernel
theorem dX7_digest_157 : decode cX7_digest 157 = .ok (.if_icmp .gt 20, 3) := by decide +kernel
theorem dX7_digest_160 : decode cX7_digest 160 = .ok (.lload_n 1, 1) := by decide +kernel
theorem dX7_digest_161 : decode cX7_digest 161 = .ok (.aload_n 0, 1) := by decide +kernel
theorem dX7_digest_162 : decode cX7_digest 162 = .ok (.iload_n 3, 1) := by decide +kernel
theorem dX7_digest_163 : decode cX7_digest 163 = .ok (.invokevirtual 231, 3) := by decide +kernel
theorem dX7_digest_166 : decode cX7_digest 166 = .ok (.i2l, 1) := by decide +kernel
theorem dX7_digest_167 : decode cX7_digest 167 = .ok (.invokestatic 219, 3) := by decide +kernel
theorem dX7_digest_170 : decode cX7_digest 170 = .ok (.lstore_n 1, 1) := by decide +kernel
theorem dX7_digest_171 : decode cX7_digest 171 = .ok (.iinc 3 1, 3) := by decide +kernel
theorem dX7_digest_174 : decode cX7_digest 174 = .ok (.goto (-20), 3) := by decide +kernel
theorem dX7_digest_177 : decode cX7_digest 177 = .ok (.lload_n 1, 1) := by decide +kernel
theorem dX7_digest_178 : decode cX7_digest 178 = .ok (.lreturn, 1) := by decide +kernel
theorem dX7_mixed_0 : decode cX7_mixed 0 = .ok (.ldc2_w 234, 3) := by decide +kernel
theorem dX7_mixed_3 : decode cX7_mixed 3 = .ok (.lload_n 0, 1) := by decide +kernel
theorem dX7_mixed_4 : decode cX7_mixed 4 = .ok (.lmul, 1) := by decide +kernel
theorem dX7_mixed_5 : decode cX7_mixed 5 = .ok (.lload_n 2, 1) := by decide +kernel
theorem dX7_mixed_6 : decode cX7_mixed 6 = .ok (.ladd, 1) := by decide +kernel
theorem dX7_mixed_7 : decode cX7_mixed 7 = .ok (.lreturn, 1) := by decide +kernel
theorem dX7_within_0 : decode cX7_within 0 = .ok (.iload_n 0, 1) := by decide +kernel
theorem dX7_within_1 : decode cX7_within 1 = .ok (.iload_n 1, 1) := by decide +kernel
theorem dX7_within_2 : decode cX7_within 2 = .ok (.if_icmp .lt 12, 3) := by decide +kernel
theorem dX7_within_5 : decode cX7_within 5 = .ok (.iload_n 0, 1) := by decide +kernel
theorem dX7_within_6 : decode cX7_within 6 = .ok (.iload_n 2, 1) := by decide +kernel
theorem dX7_within_7 : decode cX7_within 7 = .ok (.if_icmp .gt 7, 3) := by decide +kernel
theorem dX7_within_10 : decode cX7_within 10 = .ok (.iconst 1, 1) := by decide +kernel
theorem dX7_within_11 : decode cX7_within 11 = .ok (.goto 4, 3) := by decide +kernel
theorem dX7_within_14 : decode cX7_within 14 = .ok (.iconst 0, 1) := by decide +kernel
theorem dX7_within_15 : decode cX7_within 15 = .ok (.ireturn, 1) := by decide +kernel
theorem dX7_isSuch_0 : decode cX7_isSuch 0 = .ok (.iload_n 1, 1) := by decide +kernel
theorem dX7_isSuch_1 : decode cX7_isSuch 1 = .ok (.ifCond .eq 18, 3) := by decide +kernel
theorem dX7_isSuch_4 : decode cX7_isSuch 4 = .ok (.iload_n 1, 1) := by decide +kernel
theorem dX7_isSuch_5 : decode cX7_isSuch 5 = .ok (.iload_n 0, 1) := by decide +kernel
theorem dX7_isSuch_6 : decode cX7_isSuch 6 = .ok (.if_icmp .eq 13, 3) := by decide +kernel
theorem dX7_isSuch_9 : decode cX7_isSuch 9 = .ok (.iload_n 1, 1) := by decide +kernel
theorem dX7_isSuch_10 : decode cX7_isSuch 10 = .ok (.iconst 1, 1) := by decide +kernel
theorem dX7_isSuch_11 : decode cX7_isSuch 11 = .ok (.if_icmp .ne 12, 3) := by decide +kernel
theorem dX7_isSuch_14 : decode cX7_isSuch 14 = .ok (.iload_n 0, 1) := by decide +kernel
theorem dX7_isSuch_15 : decode cX7_isSuch 15 = .ok (.iconst 4, 1) := by decide +kernel
theorem dX7_isSuch_16 : decode cX7_isSuch 16 = .ok (.if_icmp .ne 7, 3) := by decide +kernel
theorem dX7_isSuch_19 : decode cX7_isSuch 19 = .ok (.iconst 1, 1) := by decide +kernel
theorem dX7_isSuch_20 : decode cX7_isSuch 20 = .ok (.goto 4, 3) := by decide +kernel
theorem dX7_isSuch_23 : decode cX7_isSuch 23 = .ok (.iconst 0, 1) := by decide +kernel
theorem dX7_isSuch_24 : decode cX7_isSuch 24 = .ok (.ireturn, 1) := by decide +kernel
theorem dX8_init_0 : decode cX8_init 0 = .ok (.aload_n 0, 1) := by decide +kernel
theorem dX8_init_1 : decode cX8_init 1 = .ok (.invokespecial 1, 3) := by decide +kernel
theorem dX8_init_4 : decode cX8_init 4 = .ok (.aload_n 0, 1) := by decide +kernel
theorem dX8_init_5 : decode cX8_init 5 = .ok (.bipush 24, 2) := by decide +kernel
theorem dX8_init_7 : decode cX8_init 7 = .ok (.newarray .int, 2) := by decide +kernel
theorem dX8_init_9 : decode cX8_init 9 = .ok (.putfield 7, 3) := by decide +kernel
theorem dX8_init_12 : decode cX8_init 12 = .ok (.aload_n 0, 1) := by decide +kernel
theorem dX8_init_13 : decode cX8_init 13 = .ok (.bipush 15, 2) := by decide +kernel
theorem dX8_init_15 : decode cX8_init 15 = .ok (.newarray .int, 2) := by decide +kernel
theorem dX8_init_17 : decode cX8_init 17 = .ok (.putfield 13, 3) := by decide +kernel
theorem dX8_init_20 : decode cX8_init 20 = .ok (.aload_n 0, 1) := by decide +kernel
theorem dX8_init_21 : decode cX8_init 21 = .ok (.iconst 5, 1) := by decide +kernel
theorem dX8_init_22 : decode cX8_init 22 = .ok (.newarray .int, 2) := by decide +kernel
theorem dX8_init_24 : decode cX8_init 24 = .ok (.putfield 16, 3) := by decide +kernel
theorem dX8_init_27 : decode cX8_init 27 = .ok (.aload_n 0, 1) := by decide +kernel
theorem dX8_init_28 : decode cX8_init 28 = .ok (.iconst 5, 1) := by decide +kernel
theorem dX8_init_29 : decode cX8_init 29 = .ok (.newarray .int, 2) := by decide +kernel
theorem dX8_init_31 : decode cX8_init 31 = .ok (.putfield 19, 3) := by decide +kernel
theorem dX8_init_34 : decode cX8_init 34 = .ok (.aload_n 0, 1) := by decide +kernel
theorem dX8_init_35 : decode cX8_init 35 = .ok (.iconst 5, 1) := by decide +kernel
theorem dX8_init_36 : decode cX8_init 36 = .ok (.newarray .int, 2) := by decide +kernel
theorem dX8_init_38 : decode cX8_init 38 = .ok (.putfield 22, 3) := by decide +kernel
theorem dX8_init_41 : decode cX8_init 41 = .ok (.aload_n 0, 1) := by decide +kernel
theorem dX8_init_42 : decode cX8_init 42 = .ok (.iconst 5, 1) := by decide +kernel
theorem dX8_init_43 : decode cX8_init 43 = .ok (.newarray .int, 2) := by decide +kernel
theorem dX8_init_45 : decode cX8_init 45 = .ok (.putfield 25, 3) := by decide +kernel
theorem dX8_init_48 : decode cX8_init 48 = .ok (.aload_n 0, 1) := by decide +kernel
theorem dX8_init_49 : decode cX8_init 49 = .ok (.iconst 5, 1) := by decide +kernel
theorem dX8_init_50 : decode cX8_init 50 = .ok (.newarray .int, 2) := by decide +kernel
theorem dX8_init_52 : decode cX8_init 52 = .ok (.putfield 28, 3) := by decide +kernel
theorem dX8_init_55 : decode cX8_init 55 = .ok (.aload_n 0, 1) := by decide +kernel
theorem dX8_init_56 : decode cX8_init 56 = .ok (.iconst 5, 1) := by decide +kernel
theorem dX8_init_57 : decode cX8_init 57 = .ok (.newarray .int, 2) := by decide +kernel
theorem dX8_init_59 : decode cX8_init 59 = .ok (.putfield 31, 3) := by decide +kernel
theorem dX8_init_62 : decode cX8_init 62 = .ok (.aload_n 0, 1) := by decide +kernel
theorem dX8_init_63 : decode cX8_init 63 = .ok (.iconst 5, 1) := by decide +kernel
theorem dX8_init_64 : decode cX8_init 64 = .ok (.newarray .int, 2) := by decide +kernel
theorem dX8_init_66 : decode cX8_init 66 = .ok (.putfield 34, 3) := by decide +kernel
theorem dX8_init_69 : decode cX8_init 69 = .ok (.aload_n 0, 1) := by decide +kernel
theorem dX8_init_70 : decode cX8_init 70 = .ok (.iconst 5, 1) := by decide +kernel
theorem dX8_init_71 : decode cX8_init 71 = .ok (.newarray .int, 2) := by decide +kernel
theorem dX8_init_73 : decode cX8_init 73 = .ok (.putfield 37, 3) := by decide +kernel
theorem dX8_init_76 : decode cX8_init 76 = .ok (.aload_n 0, 1) := by decide +kernel
theorem dX8_init_77 : decode cX8_init 77 = .ok (.bipush 18, 2) := by decide +kernel
theorem dX8_init_79 : decode cX8_init 79 = .ok (.newarray .int, 2) := by decide +kernel
theorem dX8_init_81 : decode cX8_init 81 = .ok (.putfield 40, 3) := by decide +kernel
theorem dX8_init_84 : decode cX8_init 84 = .ok (.aload_n 0, 1) := by decide +kernel
theorem dX8_init_85 : decode cX8_init 85 = .ok (.bipush 13, 2) := by decide +kernel
theorem dX8_init_87 : decode cX8_init 87 = .ok (.newarray .int, 2) := by decide +kernel
theorem dX8_init_89 : decode cX8_init 89 = .ok (.putfield 43, 3) := by decide +kernel
theorem dX8_init_92 : decode cX8_init 92 = .ok (.aload_n 0, 1) := by decide +kernel
theorem dX8_init_93 : decode cX8_init 93 = .ok (.bipush 13, 2) := by decide +kernel
theorem dX8_init_95 : decode cX8_init 95 = .ok (.newarray .int, 2) := by decide +kernel
theorem dX8_init_97 : decode cX8_init 97 = .ok (.putfield 46, 3) := by decide +kernel
theorem dX8_init_100 : decode cX8_init 100 = .ok (.aload_n 0, 1) := by decide +kernel
theorem dX8_init_101 : decode cX8_init 101 = .ok (.iconst 5, 1) := by decide +kernel
theorem dX8_init_102 : decode cX8_init 102 = .ok (.newarray .int, 2) := by decide +kernel
theorem dX8_init_104 : decode cX8_init 104 = .ok (.putfield 49, 3) := by decide +kernel
theorem dX8_init_107 : decode cX8_init 107 = .ok (.aload_n 0, 1) := by decide +kernel
theorem dX8_init_108 : decode cX8_init 108 = .ok (.iconst 5, 1) := by decide +kernel
theorem dX8_init_109 : decode cX8_init 109 = .ok (.newarray .int, 2) := by decide +kernel
theorem dX8_init_111 : decode cX8_init 111 = .ok (.putfield 52, 3) := by decide +kernel
theorem dX8_init_114 : decode cX8_init 114 = .ok (.aload_n 0, 1) := by decide +kernel
theorem dX8_init_115 : decode cX8_init 115 = .ok (.iconst 5, 1) := by decide +kernel
theorem dX8_init_116 : decode cX8_init 116 = .ok (.newarray .int, 2) := by decide +kernel
theorem dX8_init_118 : decode cX8_init 118 = .ok (.putfield 55, 3) := by decide +kernel
theorem dX8_init_121 : decode cX8_init 121 = .ok (.aload_n 0, 1) := by decide +kernel
theorem dX8_init_122 : decode cX8_init 122 = .ok (.bipush 18, 2) := by decide +kernel
theorem dX8_init_124 : decode cX8_init 124 = .ok (.newarray .int, 2) := by decide +kernel
theorem dX8_init_126 : decode cX8_init 126 = .ok (.putfield 58, 3) := by decide +kernel
theorem dX8_init_129 : decode cX8_init 129 = .ok (.aload_n 0, 1) := by decide +kernel
theorem dX8_init_130 : decode cX8_init 130 = .ok (.iconst (-1), 1) := by decide +kernel
theorem dX8_init_131 : decode cX8_init 131 = .ok (.putfield 61, 3) := by decide +kernel
theorem dX8_init_134 : decode cX8_init 134 = .ok (.return_, 1) := by decide +kernel
theorem dX8_in_0 : decode cX8_in 0 = .ok (.lload_n 0, 1) := by decide +kernel
theorem dX8_in_1 : decode cX8_in 1 = .ok (.lload_n 2, 1) := by decide +kernel
theorem dX8_in_2 : decode cX8_in 2 = .ok (.lcmp, 1) := by decide +kernel
theorem dX8_in_3 : decode cX8_in 3 = .ok (.ifCond .lt 14, 3) := by decide +kernel
theorem dX8_in_6 : decode cX8_in 6 = .ok (.lload_n 0, 1) := by decide +kernel
theorem dX8_in_7 : decode cX8_in 7 = .ok (.lload 4, 2) := by decide +kernel
theorem dX8_in_9 : decode cX8_in 9 = .ok (.lcmp, 1) := by decide +kernel
theorem dX8_in_10 : decode cX8_in 10 = .ok (.ifCond .gt 7, 3) := by decide +kernel
theorem dX8_in_13 : decode cX8_in 13 = .ok (.iconst 1, 1) := by decide +kernel
theorem dX8_in_14 : decode cX8_in 14 = .ok (.goto 4, 3) := by decide +kernel
theorem dX8_in_17 : decode cX8_in 17 = .ok (.iconst 0, 1) := by decide +kernel
theorem dX8_in_18 : decode cX8_in 18 = .ok (.ireturn, 1) := by decide +kernel
theorem dX8_copy_0 : decode cX8_copy 0 = .ok (.iconst 0, 1) := by decide +kernel
theorem dX8_copy_1 : decode cX8_copy 1 = .ok (.istore_n 2, 1) := by decide +kernel
theorem dX8_copy_2 : decode cX8_copy 2 = .ok (.iload_n 2, 1) := by decide +kernel
theorem dX8_copy_3 : decode cX8_copy 3 = .ok (.aload_n 0, 1) := by decide +kernel
theorem dX8_copy_4 : decode cX8_copy 4 = .ok (.arraylength, 1) := by decide +kernel
theorem dX8_copy_5 : decode cX8_copy 5 = .ok (.if_icmp .ge 15, 3) := by decide +kernel
theorem dX8_copy_8 : decode cX8_copy 8 = .ok (.aload_n 1, 1) := by decide +kernel
theorem dX8_copy_9 : decode cX8_copy 9 = .ok (.iload_n 2, 1) := by decide +kernel
theorem dX8_copy_10 : decode cX8_copy 10 = .ok (.aload_n 0, 1) := by decide +kernel
theorem dX8_copy_11 : decode cX8_copy 11 = .ok (.iload_n 2, 1) := by decide +kernel
theorem dX8_copy_12 : decode cX8_copy 12 = .ok (.iaload, 1) := by decide +kernel
theorem dX8_copy_13 : decode cX8_copy 13 = .ok (.iastore, 1) := by decide +kernel
theorem dX8_copy_14 : decode cX8_copy 14 = .ok (.iinc 2 1, 3) := by decide +kernel
theorem dX8_copy_17 : decode cX8_copy 17 = .ok (.goto (-15), 3) := by decide +kernel
theorem dX8_copy_20 : decode cX8_copy 20 = .ok (.return_, 1) := by decide +kernel
theorem dX8_letter_0 : decode cX8_letter 0 = .ok (.iload_n 1, 1) := by decide +kernel
theorem dX8_letter_1 : decode cX8_letter 1 = .ok (.i2l, 1) := by decide +kernel
theorem dX8_letter_2 : decode cX8_letter 2 = .ok (.lconst 1, 1) := by decide +kernel
theorem dX8_letter_3 : decode cX8_letter 3 = .ok (.ldc2_w 65, 3) := by decide +kernel
theorem dX8_letter_6 : decode cX8_letter 6 = .ok (.invokestatic 67, 3) := by decide +kernel
theorem dX8_letter_9 : decode cX8_letter 9 = .ok (.ifCond .ne 6, 3) := by decide +kernel
theorem dX8_letter_12 : decode cX8_letter 12 = .ok (.bipush (-102), 2) := by decide +kernel
theorem dX8_letter_14 : decode cX8_letter 14 = .ok (.ireturn, 1) := by decide +kernel
theorem dX8_letter_15 : decode cX8_letter 15 = .ok (.aload_n 0, 1) := by decide +kernel
theorem dX8_letter_16 : decode cX8_letter 16 = .ok (.getfield 71, 3) := by decide +kernel
theorem dX8_letter_19 : decode cX8_letter 19 = .ok (.bipush 24, 2) := by decide +kernel
theorem dX8_letter_21 : decode cX8_letter 21 = .ok (.if_icmp .ne 6, 3) := by decide +kernel
theorem dX8_letter_24 : decode cX8_letter 24 = .ok (.bipush (-104), 2) := by decide +kernel
theorem dX8_letter_26 : decode cX8_letter 26 = .ok (.ireturn, 1) := by decide +kernel
theorem dX8_letter_27 : decode cX8_letter 27 = .ok (.aload_n 0, 1) := by decide +kernel
theorem dX8_letter_28 : decode cX8_letter 28 = .ok (.getfield 7, 3) := by decide +kernel
theorem dX8_letter_31 : decode cX8_letter 31 = .ok (.aload_n 0, 1) := by decide +kernel
theorem dX8_letter_32 : decode cX8_letter 32 = .ok (.getfield 71, 3) := by decide +kernel
theorem dX8_letter_35 : decode cX8_letter 35 = .ok (.iload_n 1, 1) := by decide +kernel
theorem dX8_letter_36 : decode cX8_letter 36 = .ok (.iastore, 1) := by decide +kernel
theorem dX8_letter_37 : decode cX8_letter 37 = .ok (.aload_n 0, 1) := by decide +kernel
theorem dX8_letter_38 : decode cX8_letter 38 = .ok (.dup, 1) := by decide +kernel
theorem dX8_letter_39 : decode cX8_letter 39 = .ok (.getfield 71, 3) := by decide +kernel
theorem dX8_letter_42 : decode cX8_letter 42 = .ok (.iconst 1, 1) := by decide +kernel
theorem dX8_letter_43 : decode cX8_letter 43 = .ok (.iadd, 1) := by decide +kernel
theorem dX8_letter_44 : decode cX8_letter 44 = .ok (.putfield 71, 3) := by decide +kernel
theorem dX8_letter_47 : decode cX8_letter 47 = .ok (.aload_n 0, 1) := by decide +kernel
theorem dX8_letter_48 : decode cX8_letter 48 = .ok (.getfield 71, 3) := by decide +kernel
theorem dX8_letter_51 : decode cX8_letter 51 = .ok (.ireturn, 1) := by decide +kernel
theorem dX8_blank_0 : decode cX8_blank 0 = .ok (.aload_n 0, 1) := by decide +kernel
theorem dX8_blank_1 : decode cX8_blank 1 = .ok (.getfield 71, 3) := by decide +kernel
theorem dX8_blank_4 : decode cX8_blank 4 = .ok (.istore_n 1, 1) := by decide +kernel
theorem dX8_blank_5 : decode cX8_blank 5 = .ok (.aload_n 0, 1) := by decide +kernel
theorem dX8_blank_6 : decode cX8_blank 6 = .ok (.iconst 0, 1) := by decide +kernel
theorem dX8_blank_7 : decode cX8_blank 7 = .ok (.putfield 71, 3) := by decide +kernel
theorem dX8_blank_10 : decode cX8_blank 10 = .ok (.iload_n 1, 1) := by decide +kernel
theorem dX8_blank_11 : decode cX8_blank 11 = .ok (.ireturn, 1) := by decide +kernel
theorem dX8_kindBy_0 : decode cX8_kindBy 0 = .ok (.iload_n 0, 1) := by decide +kernel
theorem dX8_kindBy_1 : decode cX8_kindBy 1 = .ok (.bipush 114, 2) := by decide +kernel
theorem dX8_kindBy_3 : decode cX8_kindBy 3 = .ok (.if_icmp .ne 7, 3) := by decide +kernel
theorem dX8_kindBy_6 : decode cX8_kindBy 6 = .ok (.iconst 0, 1) := by decide +kernel
theorem dX8_kindBy_7 : decode cX8_kindBy 7 = .ok (.goto 44, 3) := by decide +kernel
theorem dX8_kindBy_10 : decode cX8_kindBy 10 = .ok (.iload_n 0, 1) := by decide +kernel
theorem dX8_kindBy_11 : decode cX8_kindBy 11 = .ok (.bipush 102, 2) := by decide +kernel
theorem dX8_kindBy_13 : decode cX8_kindBy 13 = .ok (.if_icmp .ne 7, 3) := by decide +kernel
theorem dX8_kindBy_16 : decode cX8_kindBy 16 = .ok (.iconst 1, 1) := by decide +kernel
theorem dX8_kindBy_17 : decode cX8_kindBy 17 = .ok (.goto 34, 3) := by decide +kernel
theorem dX8_kindBy_20 : decode cX8_kindBy 20 = .ok (.iload_n 0, 1) := by decide +kernel
theorem dX8_kindBy_21 : decode cX8_kindBy 21 = .ok (.bipush 98, 2) := by decide +kernel
theorem dX8_kindBy_23 : decode cX8_kindBy 23 = .ok (.if_icmp .ne 7, 3) := by decide +kernel
theorem dX8_kindBy_26 : decode cX8_kindBy 26 = .ok (.iconst 2, 1) := by decide +kernel
theorem dX8_kindBy_27 : decode cX8_kindBy 27 = .ok (.goto 24, 3) := by decide +kernel
theorem dX8_kindBy_30 : decode cX8_kindBy 30 = .ok (.iload_n 0, 1) := by decide +kernel
theorem dX8_kindBy_31 : decode cX8_kindBy 31 = .ok (.bipush 111, 2) := by decide +kernel
theorem dX8_kindBy_33 : decode cX8_kindBy 33 = .ok (.if_icmp .ne 7, 3) := by decide +kernel
theorem dX8_kindBy_36 : decode cX8_kindBy 36 = .ok (.iconst 3, 1) := by decide +kernel
theorem dX8_kindBy_37 : decode cX8_kindBy 37 = .ok (.goto 14, 3) := by decide +kernel
theorem dX8_kindBy_40 : decode cX8_kindBy 40 = .ok (.iload_n 0, 1) := by decide +kernel
theorem dX8_kindBy_41 : decode cX8_kindBy 41 = .ok (.bipush 116, 2) := by decide +kernel
theorem dX8_kindBy_43 : decode cX8_kindBy 43 = .ok (.if_icmp .ne 7, 3) := by decide +kernel
theorem dX8_kindBy_46 : decode cX8_kindBy 46 = .ok (.iconst 4, 1) := by decide +kernel
theorem dX8_kindBy_47 : decode cX8_kindBy 47 = .ok (.goto 4, 3) := by decide +kernel
theorem dX8_kindBy_50 : decode cX8_kindBy 50 = .ok (.iconst (-1), 1) := by decide +kernel
theorem dX8_kindBy_51 : decode cX8_kindBy 51 = .ok (.ireturn, 1) := by decide +kernel
theorem dX8_go_0 : decode cX8_go 0 = .ok (.iload_n 1, 1) := by decide +kernel
theorem dX8_go_1 : decode cX8_go 1 = .ok (.bipush 48, 2) := by decide +kernel
theorem dX8_go_3 : decode cX8_go 3 = .ok (.isub, 1) := by decide +kernel
theorem dX8_go_4 : decode cX8_go 4 = .ok (.istore_n 2, 1) := by decide +kernel
theorem dX8_go_5 : decode cX8_go 5 = .ok (.aload_n 0, 1) := by decide +kernel
theorem dX8_go_6 : decode cX8_go 6 = .ok (.getfield 74, 3) := by decide +kernel
theorem dX8_go_9 : decode cX8_go 9 = .ok (.istore_n 3, 1) := by decide +kernel
theorem dX8_go_10 : decode cX8_go 10 = .ok (.aload_n 0, 1) := by decide +kernel
theorem dX8_go_11 : decode cX8_go 11 = .ok (.dup, 1) := by decide +kernel
theorem dX8_go_12 : decode cX8_go 12 = .ok (.getfield 74, 3) := by decide +kernel
theorem dX8_go_15 : decode cX8_go 15 = .ok (.iconst 1, 1) := by decide +kernel
theorem dX8_go_16 : decode cX8_go 16 = .ok (.iadd, 1) := by decide +kernel
theorem dX8_go_17 : decode cX8_go 17 = .ok (.putfield 74, 3) := by decide +kernel
theorem dX8_go_20 : decode cX8_go 20 = .ok (.iload_n 3, 1) := by decide +kernel
theorem dX8_go_21 : decode cX8_go 21 = .ok (.tableswitch 194 0 4 #[35, 64, 88, 122, 179], 35) := by decide +kernel
theorem dX8_go_56 : decode cX8_go 56 = .ok (.aload_n 0, 1) := by decide +kernel
theorem dX8_go_57 : decode cX8_go 57 = .ok (.getfield 13, 3) := by decide +kernel
theorem dX8_go_60 : decode cX8_go 60 = .ok (.iconst 3, 1) := by decide +kernel
theorem dX8_go_61 : decode cX8_go 61 = .ok (.aload_n 0, 1) := by decide +kernel
theorem dX8_go_62 : decode cX8_go 62 = .ok (.getfield 77, 3) := by decide +kernel
theorem dX8_go_65 : decode cX8_go 65 = .ok (.imul, 1) := by decide +kernel
theorem dX8_go_66 : decode cX8_go 66 = .ok (.iload_n 1, 1) := by decide +kernel
theorem dX8_go_67 : decode cX8_go 67 = .ok (.invokestatic 80, 3) := by decide +kernel
theorem dX8_go_70 : decode cX8_go 70 = .ok (.iastore, 1) := by decide +kernel
theorem dX8_go_71 : decode cX8_go 71 = .ok (.iload_n 1, 1) := by decide +kernel
theorem dX8_go_72 : decode cX8_go 72 = .ok (.invokestatic 80, 3) := by decide +kernel
theorem dX8_go_75 : decode cX8_go 75 = .ok (.iconst (-1), 1) := by decide +kernel
theorem dX8_go_76 : decode cX8_go 76 = .ok (.if_icmp .eq 7, 3) := by decide +kernel
theorem dX8_go_79 : decode cX8_go 79 = .ok (.iconst 1, 1) := by decide +kernel
theorem dX8_go_80 : decode cX8_go 80 = .ok (.goto 4, 3) := by decide +kernel
theorem dX8_go_83 : decode cX8_go 83 = .ok (.iconst 0, 1) := by decide +kernel
theorem dX8_go_84 : decode cX8_go 84 = .ok (.ireturn, 1) := by decide +kernel
theorem dX8_go_85 : decode cX8_go 85 = .ok (.aload_n 0, 1) := by decide +kernel
theorem dX8_go_86 : decode cX8_go 86 = .ok (.getfield 13, 3) := by decide +kernel
theorem dX8_go_89 : decode cX8_go 89 = .ok (.iconst 3, 1) := by decide +kernel
theorem dX8_go_90 : decode cX8_go 90 = .ok (.aload_n 0, 1) := by decide +kernel
theorem dX8_go_91 : decode cX8_go 91 = .ok (.getfield 77, 3) := by decide +kernel
theorem dX8_go_94 : decode cX8_go 94 = .ok (.imul, 1) := by decide +kernel
theorem dX8_go_95 : decode cX8_go 95 = .ok (.iconst 1, 1) := by decide +kernel
theorem dX8_go_96 : decode cX8_go 96 = .ok (.iadd, 1) := by decide +kernel
theorem dX8_go_97 : decode cX8_go 97 = .ok (.iload_n 2, 1) := by decide +kernel
theorem dX8_go_98 : decode cX8_go 98 = .ok (.iastore, 1) := by decide +kernel
theorem dX8_go_99 : decode cX8_go 99 = .ok (.iload_n 2, 1) := by decide +kernel
theorem dX8_go_100 : decode cX8_go 100 = .ok (.i2l, 1) := by decide +kernel
theorem dX8_go_101 : decode cX8_go 101 = .ok (.lconst 0, 1) := by decide +kernel
theorem dX8_go_102 : decode cX8_go 102 = .ok (.ldc2_w 84, 3) := by decide +kernel
theorem dX8_go_105 : decode cX8_go 105 = .ok (.invokestatic 67, 3) := by decide +kernel
theorem dX8_go_108 : decode cX8_go 108 = .ok (.ireturn, 1) := by decide +kernel
theorem dX8_go_109 : decode cX8_go 109 = .ok (.aload_n 0, 1) := by decide +kernel
theorem dX8_go_110 : decode cX8_go 110 = .ok (.getfield 13, 3) := by decide +kernel
theorem dX8_go_113 : decode cX8_go 113 = .ok (.iconst 3, 1) := by decide +kernel
theorem dX8_go_114 : decode cX8_go 114 = .ok (.aload_n 0, 1) := by decide +kernel
theorem dX8_go_115 : decode cX8_go 115 = .ok (.getfield 77, 3) := by decide +kernel
theorem dX8_go_118 : decode cX8_go 118 = .ok (.imul, 1) := by decide +kernel
theorem dX8_go_119 : decode cX8_go 119 = .ok (.iconst 2, 1) := by decide +kernel
theorem dX8_go_120 : decode cX8_go 120 = .ok (.iadd, 1) := by decide +kernel
theorem dX8_go_121 : decode cX8_go 121 = .ok (.iload_n 2, 1) := by decide +kernel
theorem dX8_go_122 : decode cX8_go 122 = .ok (.iastore, 1) := by decide +kernel
theorem dX8_go_123 : decode cX8_go 123 = .ok (.aload_n 0, 1) := by decide +kernel
theorem dX8_go_124 : decode cX8_go 124 = .ok (.dup, 1) := by decide +kernel
theorem dX8_go_125 : decode cX8_go 125 = .ok (.getfield 77, 3) := by decide +kernel
theorem dX8_go_128 : decode cX8_go 128 = .ok (.iconst 1, 1) := by decide +kernel
theorem dX8_go_129 : decode cX8_go 129 = .ok (.iadd, 1) := by decide +kernel
theorem dX8_go_130 : decode cX8_go 130 = .ok (.putfield 77, 3) := by decide +kernel
theorem dX8_go_133 : decode cX8_go 133 = .ok (.iload_n 2, 1) := by decide +kernel
theorem dX8_go_134 : decode cX8_go 134 = .ok (.i2l, 1) := by decide +kernel
theorem dX8_go_135 : decode cX8_go 135 = .ok (.lconst 0, 1) := by decide +kernel
theorem dX8_go_136 : decode cX8_go 136 = .ok (.ldc2_w 86, 3) := by decide +kernel
theorem dX8_go_139 : decode cX8_go 139 = .ok (.invokestatic 67, 3) := by decide +kernel
theorem dX8_go_142 : decode cX8_go 142 = .ok (.ireturn, 1) := by decide +kernel
theorem dX8_go_143 : decode cX8_go 143 = .ok (.aload_n 0, 1) := by decide +kernel
theorem dX8_go_144 : decode cX8_go 144 = .ok (.iload_n 1, 1) := by decide +kernel
theorem dX8_go_145 : decode cX8_go 145 = .ok (.bipush 44, 2) := by decide +kernel
theorem dX8_go_147 : decode cX8_go 147 = .ok (.if_icmp .ne 7, 3) := by decide +kernel
theorem dX8_go_150 : decode cX8_go 150 = .ok (.iconst 0, 1) := by decide +kernel
theorem dX8_go_151 : decode cX8_go 151 = .ok (.goto 4, 3) := by decide +kernel
theorem dX8_go_154 : decode cX8_go 154 = .ok (.iconst 4, 1) := by decide +kernel
theorem dX8_go_155 : decode cX8_go 155 = .ok (.putfield 74, 3) := by decide +kernel
theorem dX8_go_158 : decode cX8_go 158 = .ok (.iload_n 1, 1) := by decide +kernel
theorem dX8_go_159 : decode cX8_go 159 = .ok (.bipush 44, 2) := by decide +kernel
theorem dX8_go_161 : decode cX8_go 161 = .ok (.if_icmp .ne 19, 3) := by decide +kernel
theorem dX8_go_164 : decode cX8_go 164 = .ok (.aload_n 0, 1) := by decide +kernel
theorem dX8_go_165 : decode cX8_go 165 = .ok (.getfield 77, 3) := by decide +kernel
theorem dX8_go_168 : decode cX8_go 168 = .ok (.iconst 5, 1) := by decide +kernel
theorem dX8_go_169 : decode cX8_go 169 = .ok (.if_icmp .ge 7, 3) := by decide +kernel
theorem dX8_go_172 : decode cX8_go 172 = .ok (.iconst 1, 1) := by decide +kernel
theorem dX8_go_173 : decode cX8_go 173 = .ok (.goto 26, 3) := by decide +kernel
theorem dX8_go_176 : decode cX8_go 176 = .ok (.iconst 0, 1) := by decide +kernel
theorem dX8_go_177 : decode cX8_go 177 = .ok (.goto 22, 3) := by decide +kernel
theorem dX8_go_180 : decode cX8_go 180 = .ok (.iload_n 1, 1) := by decide +kernel
theorem dX8_go_181 : decode cX8_go 181 = .ok (.bipush 59, 2) := by decide +kernel
theorem dX8_go_183 : decode cX8_go 183 = .ok (.if_icmp .ne 15, 3) := by decide +kernel
theorem dX8_go_186 : decode cX8_go 186 = .ok (.aload_n 0, 1) := by decide +kernel
theorem dX8_go_187 : decode cX8_go 187 = .ok (.getfield 77, 3) := by decide +kernel
theorem dX8_go_190 : decode cX8_go 190 = .ok (.iconst 1, 1) := by decide +kernel
theorem dX8_go_191 : decode cX8_go 191 = .ok (.if_icmp .le 7, 3) := by decide +kernel
theorem dX8_go_194 : decode cX8_go 194 = .ok (.iconst 1, 1) := by decide +kernel
theorem dX8_go_195 : decode cX8_go 195 = .ok (.goto 4, 3) := by decide +kernel
theorem dX8_go_198 : decode cX8_go 198 = .ok (.iconst 0, 1) := by decide +kernel
theorem dX8_go_199 : decode cX8_go 199 = .ok (.ireturn, 1) := by decide +kernel
theorem dX8_go_200 : decode cX8_go 200 = .ok (.aload_n 0, 1) := by decide +kernel
theorem dX8_go_201 : decode cX8_go 201 = .ok (.iload_n 2, 1) := by decide +kernel
theorem dX8_go_202 : decode cX8_go 202 = .ok (.putfield 88, 3) := by decide +kernel
theorem dX8_go_205 : decode cX8_go 205 = .ok (.iload_n 2, 1) := by decide +kernel
theorem dX8_go_206 : decode cX8_go 206 = .ok (.i2l, 1) := by decide +kernel
theorem dX8_go_207 : decode cX8_go 207 = .ok (.lconst 1, 1) := by decide +kernel
theorem dX8_go_208 : decode cX8_go 208 = .ok (.ldc2_w 84, 3) := by decide +kernel
theorem dX8_go_211 : decode cX8_go 211 = .ok (.invokestatic 67, 3) := by decide +kernel
theorem dX8_go_214 : decode cX8_go 214 = .ok (.ireturn, 1) := by decide +kernel
theorem dX8_go_215 : decode cX8_go 215 = .ok (.iconst 0, 1) := by decide +kernel
theorem dX8_go_216 : decode cX8_go 216 = .ok (.ireturn, 1) := by decide +kernel
theorem dX8_faultOf_0 : decode cX8_faultOf 0 = .ok (.aload_n 0, 1) := by decide +kernel
theorem dX8_faultOf_1 : decode cX8_faultOf 1 = .ok (.iconst 0, 1) := by decide +kernel
theorem dX8_faultOf_2 : decode cX8_faultOf 2 = .ok (.putfield 77, 3) := by decide +kernel
theorem dX8_faultOf_5 : decode cX8_faultOf 5 = .ok (.aload_n 0, 1) := by decide +kernel
theorem dX8_faultOf_6 : decode cX8_faultOf 6 = .ok (.iconst 0, 1) := by decide +kernel
theorem dX8_faultOf_7 : decode cX8_faultOf 7 = .ok (.putfield 74, 3) := by decide +kernel
theorem dX8_faultOf_10 : decode cX8_faultOf 10 = .ok (.iconst 0, 1) := by decide +kernel
theorem dX8_faultOf_11 : decode cX8_faultOf 11 = .ok (.istore_n 1, 1) := by decide +kernel
theorem dX8_faultOf_12 : decode cX8_faultOf 12 = .ok (.iload_n 1, 1) := by decide +kernel
theorem dX8_faultOf_13 : decode cX8_faultOf 13 = .ok (.aload_n 0, 1) := by decide +kernel
theorem dX8_faultOf_14 : decode cX8_faultOf 14 = .ok (.getfield 71, 3) := by decide +kernel
theorem dX8_faultOf_17 : decode cX8_faultOf 17 = .ok (.if_icmp .ge 22, 3) := by decide +kernel
theorem dX8_faultOf_20 : decode cX8_faultOf 20 = .ok (.aload_n 0, 1) := by decide +kernel
theorem dX8_faultOf_21 : decode cX8_faultOf 21 = .ok (.aload_n 0, 1) := by decide +kernel
theorem dX8_faultOf_22 : decode cX8_faultOf 22 = .ok (.getfield 7, 3) := by decide +kernel
theorem dX8_faultOf_25 : decode cX8_faultOf 25 = .ok (.iload_n 1, 1) := by decide +kernel
theorem dX8_faultOf_26 : decode cX8_faultOf 26 = .ok (.iaload, 1) := by decide +kernel
theorem dX8_faultOf_27 : decode cX8_faultOf 27 = .ok (.invokevirtual 91, 3) := by decide +kernel
theorem dX8_faultOf_30 : decode cX8_faultOf 30 = .ok (.ifCond .eq 9, 3) := by decide +kernel
theorem dX8_faultOf_33 : decode cX8_faultOf 33 = .ok (.iinc 1 1, 3) := by decide +kernel
theorem dX8_faultOf_36 : decode cX8_faultOf 36 = .ok (.goto (-24), 3) := by decide +kernel
theorem dX8_faultOf_39 : decode cX8_faultOf 39 = .ok (.iload_n 1, 1) := by decide +kernel
theorem dX8_faultOf_40 : decode cX8_faultOf 40 = .ok (.ireturn, 1) := by decide +kernel
theorem dX8_fault_0 : decode cX8_fault 0 = .ok (.aload_n 0, 1) := by decide +kernel
theorem dX8_fault_1 : decode cX8_fault 1 = .ok (.invokevirtual 95, 3) := by decide +kernel
theorem dX8_fault_4 : decode cX8_fault 4 = .ok (.ireturn, 1) := by decide +kernel
theorem dX8_coast_0 : decode cX8_coast 0 = .ok (.aload_n 0, 1) := by decide +kernel
theorem dX8_coast_1 : decode cX8_coast 1 = .ok (.invokevirtual 95, 3) := by decide +kernel
theorem dX8_coast_4 : decode cX8_coast 4 = .ok (.aload_n 0, 1) := by decide +kernel
theorem dX8_coast_5 : decode cX8_coast 5 = .ok (.getfield 71, 3) := by decide +kernel
theorem dX8_coast_8 : decode cX8_coast 8 = .ok (.if_icmp .lt 11, 3) := by decide +kernel
theorem dX8_coast_11 : decode cX8_coast 11 = .ok (.aload_n 0, 1) := by decide +kernel
theorem dX8_coast_12 : decode cX8_coast 12 = .ok (.getfield 74, 3) := by decide +kernel
theorem dX8_coast_15 : decode cX8_coast 15 = .ok (.iconst 5, 1) := by decide +kernel
theorem dX8_coast_16 : decode cX8_coast 16 = .ok (.if_icmp .eq 6, 3) := by decide +kernel
theorem dX8_coast_19 : decode cX8_coast 19 = .ok (.bipush (-103), 2) := by decide +kernel
theorem dX8_coast_21 : decode cX8_coast 21 = .ok (.ireturn, 1) := by decide +kernel
theorem dX8_coast_22 : decode cX8_coast 22 = .ok (.aload_n 0, 1) := by decide +kernel
theorem dX8_coast_23 : decode cX8_coast 23 = .ok (.aload_n 0, 1) := by decide +kernel
theorem dX8_coast_24 : decode cX8_coast 24 = .ok (.getfield 77, 3) := by decide +kernel
theorem dX8_coast_27 : decode cX8_coast 27 = .ok (.putfield 99, 3) := by decide +kernel
theorem dX8_coast_30 : decode cX8_coast 30 = .ok (.iconst 0, 1) := by decide +kernel
theorem dX8_coast_31 : decode cX8_coast 31 = .ok (.istore_n 1, 1) := by decide +kernel
theorem dX8_coast_32 : decode cX8_coast 32 = .ok (.iload_n 1, 1) := by decide +kernel
theorem dX8_coast_33 : decode cX8_coast 33 = .ok (.aload_n 0, 1) := by decide +kernel
theorem dX8_coast_34 : decode cX8_coast 34 = .ok (.getfield 99, 3) := by decide +kernel
theorem dX8_coast_37 : decode cX8_coast 37 = .ok (.if_icmp .ge 69, 3) := by decide +kernel
theorem dX8_coast_40 : decode cX8_coast 40 = .ok (.aload_n 0, 1) := by decide +kernel
theorem dX8_coast_41 : decode cX8_coast 41 = .ok (.getfield 16, 3) := by decide +kernel
theorem dX8_coast_44 : decode cX8_coast 44 = .ok (.iload_n 1, 1) := by decide +kernel
theorem dX8_coast_45 : decode cX8_coast 45 = .ok (.aload_n 0, 1) := by decide +kernel
theorem dX8_coast_46 : decode cX8_coast 46 = .ok (.getfield 13, 3) := by decide +kernel
theorem dX8_coast_49 : decode cX8_coast 49 = .ok (.iconst 3, 1) := by decide +kernel
theorem dX8_coast_50 : decode cX8_coast 50 = .ok (.iload_n 1, 1) := by decide +kernel
theorem dX8_coast_51 : decode cX8_coast 51 = .ok (.imul, 1) := by decide +kernel
theorem dX8_coast_52 : decode cX8_coast 52 = .ok (.iaload, 1) := by decide +kernel
theorem dX8_coast_53 : decode cX8_coast 53 = .ok (.iastore, 1) := by decide +kernel
theorem dX8_coast_54 : decode cX8_coast 54 = .ok (.aload_n 0, 1) := by decide +kernel
theorem dX8_coast_55 : decode cX8_coast 55 = .ok (.getfield 22, 3) := by decide +kernel
theorem dX8_coast_58 : decode cX8_coast 58 = .ok (.iload_n 1, 1) := by decide +kernel
theorem dX8_coast_59 : decode cX8_coast 59 = .ok (.aload_n 0, 1) := by decide +kernel
theorem dX8_coast_60 : decode cX8_coast 60 = .ok (.getfield 13, 3) := by decide +kernel
theorem dX8_coast_63 : decode cX8_coast 63 = .ok (.iconst 3, 1) := by decide +kernel
theorem dX8_coast_64 : decode cX8_coast 64 = .ok (.iload_n 1, 1) := by decide +kernel
theorem dX8_coast_65 : decode cX8_coast 65 = .ok (.imul, 1) := by decide +kernel
theorem dX8_coast_66 : decode cX8_coast 66 = .ok (.iconst 1, 1) := by decide +kernel
theorem dX8_coast_67 : decode cX8_coast 67 = .ok (.iadd, 1) := by decide +kernel
theorem dX8_coast_68 : decode cX8_coast 68 = .ok (.iaload, 1) := by decide +kernel
theorem dX8_coast_69 : decode cX8_coast 69 = .ok (.iastore, 1) := by decide +kernel
theorem dX8_coast_70 : decode cX8_coast 70 = .ok (.aload_n 0, 1) := by decide +kernel
theorem dX8_coast_71 : decode cX8_coast 71 = .ok (.getfield 19, 3) := by decide +kernel
theorem dX8_coast_74 : decode cX8_coast 74 = .ok (.iload_n 1, 1) := by decide +kernel
theorem dX8_coast_75 : decode cX8_coast 75 = .ok (.aload_n 0, 1) := by decide +kernel
theorem dX8_coast_76 : decode cX8_coast 76 = .ok (.getfield 13, 3) := by decide +kernel
theorem dX8_coast_79 : decode cX8_coast 79 = .ok (.iconst 3, 1) := by decide +kernel
theorem dX8_coast_80 : decode cX8_coast 80 = .ok (.iload_n 1, 1) := by decide +kernel
theorem dX8_coast_81 : decode cX8_coast 81 = .ok (.imul, 1) := by decide +kernel
theorem dX8_coast_82 : decode cX8_coast 82 = .ok (.iconst 2, 1) := by decide +kernel
theorem dX8_coast_83 : decode cX8_coast 83 = .ok (.iadd, 1) := by decide +kernel
theorem dX8_coast_84 : decode cX8_coast 84 = .ok (.iaload, 1) := by decide +kernel
theorem dX8_coast_85 : decode cX8_coast 85 = .ok (.iastore, 1) := by decide +kernel
theorem dX8_coast_86 : decode cX8_coast 86 = .ok (.aload_n 0, 1) := by decide +kernel
theorem dX8_coast_87 : decode cX8_coast 87 = .ok (.getfield 25, 3) := by decide +kernel
theorem dX8_coast_90 : decode cX8_coast 90 = .ok (.iload_n 1, 1) := by decide +kernel
theorem dX8_coast_91 : decode cX8_coast 91 = .ok (.iload_n 1, 1) := by decide +kernel
theorem dX8_coast_92 : decode cX8_coast 92 = .ok (.iastore, 1) := by decide +kernel
theorem dX8_coast_93 : decode cX8_coast 93 = .ok (.aload_n 0, 1) := by decide +kernel
theorem dX8_coast_94 : decode cX8_coast 94 = .ok (.getfield 28, 3) := by decide +kernel
theorem dX8_coast_97 : decode cX8_coast 97 = .ok (.iload_n 1, 1) := by decide +kernel
theorem dX8_coast_98 : decode cX8_coast 98 = .ok (.iconst 0, 1) := by decide +kernel
theorem dX8_coast_99 : decode cX8_coast 99 = .ok (.iastore, 1) := by decide +kernel
theorem dX8_coast_100 : decode cX8_coast 100 = .ok (.iinc 1 1, 3) := by decide +kernel
theorem dX8_coast_103 : decode cX8_coast 103 = .ok (.goto (-71), 3) := by decide +kernel
theorem dX8_coast_106 : decode cX8_coast 106 = .ok (.aload_n 0, 1) := by decide +kernel
theorem dX8_coast_107 : decode cX8_coast 107 = .ok (.aload_n 0, 1) := by decide +kernel
theorem dX8_coast_108 : decode cX8_coast 108 = .ok (.getfield 88, 3) := by decide +kernel
theorem dX8_coast_111 : decode cX8_coast 111 = .ok (.putfield 102, 3) := by decide +kernel
theorem dX8_coast_114 : decode cX8_coast 114 = .ok (.aload_n 0, 1) := by decide +kernel
theorem dX8_coast_115 : decode cX8_coast 115 = .ok (.iconst 0, 1) := by decide +kernel
theorem dX8_coast_116 : decode cX8_coast 116 = .ok (.putfield 105, 3) := by decide +kernel
theorem dX8_coast_119 : decode cX8_coast 119 = .ok (.aload_n 0, 1) := by decide +kernel
theorem dX8_coast_120 : decode cX8_coast 120 = .ok (.iconst 0, 1) := by decide +kernel
theorem dX8_coast_121 : decode cX8_coast 121 = .ok (.putfield 108, 3) := by decide +kernel
theorem dX8_coast_124 : decode cX8_coast 124 = .ok (.aload_n 0, 1) := by decide +kernel
theorem dX8_coast_125 : decode cX8_coast 125 = .ok (.dup, 1) := by decide +kernel
theorem dX8_coast_126 : decode cX8_coast 126 = .ok (.getfield 111, 3) := by decide +kernel
theorem dX8_coast_129 : decode cX8_coast 129 = .ok (.iconst 1, 1) := by decide +kernel
theorem dX8_coast_130 : decode cX8_coast 130 = .ok (.iadd, 1) := by decide +kernel
theorem dX8_coast_131 : decode cX8_coast 131 = .ok (.putfield 111, 3) := by decide +kernel
theorem dX8_coast_134 : decode cX8_coast 134 = .ok (.aload_n 0, 1) := by decide +kernel
theorem dX8_coast_135 : decode cX8_coast 135 = .ok (.iconst 0, 1) := by decide +kernel
theorem dX8_coast_136 : decode cX8_coast 136 = .ok (.putfield 71, 3) := by decide +kernel
theorem dX8_coast_139 : decode cX8_coast 139 = .ok (.aload_n 0, 1) := by decide +kernel
theorem dX8_coast_140 : decode cX8_coast 140 = .ok (.getfield 99, 3) := by decide +kernel
theorem dX8_coast_143 : decode cX8_coast 143 = .ok (.ireturn, 1) := by decide +kernel
theorem dX8_lacks_0 : decode cX8_lacks 0 = .ok (.aload_n 0, 1) := by decide +kernel
theorem dX8_lacks_1 : decode cX8_lacks 1 = .ok (.getfield 99, 3) := by decide +kernel
theorem dX8_lacks_4 : decode cX8_lacks 4 = .ok (.ifCond .ne 7, 3) := by decide +kernel
theorem dX8_lacks_7 : decode cX8_lacks 7 = .ok (.iconst 1, 1) := by decide +kernel
theorem dX8_lacks_8 : decode cX8_lacks 8 = .ok (.goto 4, 3) := by decide +kernel
theorem dX8_lacks_11 : decode cX8_lacks 11 = .ok (.iconst 0, 1) := by decide +kernel
theorem dX8_lacks_12 : decode cX8_lacks 12 = .ok (.ireturn, 1) := by decide +kernel
theorem dX8_isRiver_0 : decode cX8_isRiver 0 = .ok (.iload_n 1, 1) := by decide +kernel
theorem dX8_isRiver_1 : decode cX8_isRiver 1 = .ok (.i2l, 1) := by decide +kernel
theorem dX8_isRiver_2 : decode cX8_isRiver 2 = .ok (.lconst 0, 1) := by decide +kernel
theorem dX8_isRiver_3 : decode cX8_isRiver 3 = .ok (.aload_n 0, 1) := by decide +kernel
theorem dX8_isRiver_4 : decode cX8_isRiver 4 = .ok (.getfield 99, 3) := by decide +kernel
theorem dX8_isRiver_7 : decode cX8_isRiver 7 = .ok (.iconst 1, 1) := by decide +kernel
theorem dX8_isRiver_8 : decode cX8_isRiver 8 = .ok (.isub, 1) := by decide +kernel
theorem dX8_isRiver_9 : decode cX8_isRiver 9 = .ok (.i2l, 1) := by decide +kernel
theorem dX8_isRiver_10 : decode cX8_isRiver 10 = .ok (.invokestatic 67, 3) := by decide +kernel
theorem dX8_isRiver_13 : decode cX8_isRiver 13 = .ok (.ireturn, 1) := by decide +kernel
theorem dX8_pushes_0 : decode cX8_pushes 0 = .ok (.aload_n 0, 1) := by decide +kernel
theorem dX8_pushes_1 : decode cX8_pushes 1 = .ok (.getfield 16, 3) := by decide +kernel
theorem dX8_pushes_4 : decode cX8_pushes 4 = .ok (.iload_n 1, 1) := by decide +kernel
theorem dX8_pushes_5 : decode cX8_pushes 5 = .ok (.iaload, 1) := by decide +kernel
theorem dX8_pushes_6 : decode cX8_pushes 6 = .ok (.istore_n 3, 1) := by decide +kernel
theorem dX8_pushes_7 : decode cX8_pushes 7 = .ok (.aload_n 0, 1) := by decide +kernel
theorem dX8_pushes_8 : decode cX8_pushes 8 = .ok (.getfield 22, 3) := by decide +kernel
theorem dX8_pushes_11 : decode cX8_pushes 11 = .ok (.iload_n 1, 1) := by decide +kernel
theorem dX8_pushes_12 : decode cX8_pushes 12 = .ok (.iaload, 1) := by decide +kernel
theorem dX8_pushes_13 : decode cX8_pushes 13 = .ok (.istore 4, 2) := by decide +kernel
theorem dX8_pushes_15 : decode cX8_pushes 15 = .ok (.aload_n 0, 1) := by decide +kernel
theorem dX8_pushes_16 : decode cX8_pushes 16 = .ok (.getfield 22, 3) := by decide +kernel
theorem dX8_pushes_19 : decode cX8_pushes 19 = .ok (.iload_n 2, 1) := by decide +kernel
theorem dX8_pushes_20 : decode cX8_pushes 20 = .ok (.iaload, 1) := by decide +kernel
theorem dX8_pushes_21 : decode cX8_pushes 21 = .ok (.istore 5, 2) := by decide +kernel
theorem dX8_pushes_23 : decode cX8_pushes 23 = .ok (.iload_n 3, 1) := by decide +kernel
theorem dX8_pushes_24 : decode cX8_pushes 24 = .ok (.iconst 3, 1) := by decide +kernel
theorem dX8_pushes_25 : decode cX8_pushes 25 = .ok (.if_icmp .ne 5, 3) := by decide +kernel
theorem dX8_pushes_28 : decode cX8_pushes 28 = .ok (.iconst 0, 1) := by decide +kernel
theorem dX8_pushes_29 : decode cX8_pushes 29 = .ok (.ireturn, 1) := by decide +kernel
theorem dX8_pushes_30 : decode cX8_pushes 30 = .ok (.aload_n 0, 1) := by decide +kernel
theorem dX8_pushes_31 : decode cX8_pushes 31 = .ok (.getfield 16, 3) := by decide +kernel
theorem dX8_pushes_34 : decode cX8_pushes 34 = .ok (.iload_n 2, 1) := by decide +kernel
theorem dX8_pushes_35 : decode cX8_pushes 35 = .ok (.iaload, 1) := by decide +kernel
theorem dX8_pushes_36 : decode cX8_pushes 36 = .ok (.iconst 3, 1) := by decide +kernel
theorem dX8_pushes_37 : decode cX8_pushes 37 = .ok (.if_icmp .ne 14, 3) := by decide +kernel
theorem dX8_pushes_40 : decode cX8_pushes 40 = .ok (.iload 4, 2) := by decide +kernel
theorem dX8_pushes_42 : decode cX8_pushes 42 = .ok (.ifCond .le 7, 3) := by decide +kernel
theorem dX8_pushes_45 : decode cX8_pushes 45 = .ok (.iconst 1, 1) := by decide +kernel
theorem dX8_pushes_46 : decode cX8_pushes 46 = .ok (.goto 4, 3) := by decide +kernel
theorem dX8_pushes_49 : decode cX8_pushes 49 = .ok (.iconst 0, 1) := by decide +kernel
theorem dX8_pushes_50 : decode cX8_pushes 50 = .ok (.ireturn, 1) := by decide +kernel
theorem dX8_pushes_51 : decode cX8_pushes 51 = .ok (.iload_n 3, 1) := by decide +kernel
theorem dX8_pushes_52 : decode cX8_pushes 52 = .ok (.ifCond .ne 20, 3) := by decide +kernel
theorem dX8_pushes_55 : decode cX8_pushes 55 = .ok (.iload 4, 2) := by decide +kernel
theorem dX8_pushes_57 : decode cX8_pushes 57 = .ok (.iconst 2, 1) := by decide +kernel
theorem dX8_pushes_58 : decode cX8_pushes 58 = .ok (.iload 5, 2) := by decide +kernel
theorem dX8_pushes_60 : decode cX8_pushes 60 = .ok (.imul, 1) := by decide +kernel
theorem dX8_pushes_61 : decode cX8_pushes 61 = .ok (.if_icmp .le 7, 3) := by decide +kernel
theorem dX8_pushes_64 : decode cX8_pushes 64 = .ok (.iconst 1, 1) := by decide +kernel
theorem dX8_pushes_65 : decode cX8_pushes 65 = .ok (.goto 44, 3) := by decide +kernel
theorem dX8_pushes_68 : decode cX8_pushes 68 = .ok (.iconst 0, 1) := by decide +kernel
theorem dX8_pushes_69 : decode cX8_pushes 69 = .ok (.goto 40, 3) := by decide +kernel
theorem dX8_pushes_72 : decode cX8_pushes 72 = .ok (.iload_n 3, 1) := by decide +kernel
theorem dX8_pushes_73 : decode cX8_pushes 73 = .ok (.iconst 1, 1) := by decide +kernel
theorem dX8_pushes_74 : decode cX8_pushes 74 = .ok (.if_icmp .ne 18, 3) := by decide +kernel
theorem dX8_pushes_77 : decode cX8_pushes 77 = .ok (.iload 4, 2) := by decide +kernel
theorem dX8_pushes_79 : decode cX8_pushes 79 = .ok (.iload 5, 2) := by decide +kernel
theorem dX8_pushes_81 : decode cX8_pushes 81 = .ok (.if_icmp .le 7, 3) := by decide +kernel
theorem dX8_pushes_84 : decode cX8_pushes 84 = .ok (.iconst 1, 1) := by decide +kernel
theorem dX8_pushes_85 : decode cX8_pushes 85 = .ok (.goto 24, 3) := by decide +kernel
theorem dX8_pushes_88 : decode cX8_pushes 88 = .ok (.iconst 0, 1) := by decide +kernel
theorem dX8_pushes_89 : decode cX8_pushes 89 = .ok (.goto 20, 3) := by decide +kernel
theorem dX8_pushes_92 : decode cX8_pushes 92 = .ok (.iload_n 3, 1) := by decide +kernel
theorem dX8_pushes_93 : decode cX8_pushes 93 = .ok (.iconst 4, 1) := by decide +kernel
theorem dX8_pushes_94 : decode cX8_pushes 94 = .ok (.if_icmp .ne 14, 3) := by decide +kernel
theorem dX8_pushes_97 : decode cX8_pushes 97 = .ok (.iload 4, 2) := by decide +kernel
theorem dX8_pushes_99 : decode cX8_pushes 99 = .ok (.iload 5, 2) := by decide +kernel
theorem dX8_pushes_101 : decode cX8_pushes 101 = .ok (.if_icmp .lt 7, 3) := by decide +kernel
theorem dX8_pushes_104 : decode cX8_pushes 104 = .ok (.iconst 1, 1) := by decide +kernel
theorem dX8_pushes_105 : decode cX8_pushes 105 = .ok (.goto 4, 3) := by decide +kernel
theorem dX8_pushes_108 : decode cX8_pushes 108 = .ok (.iconst 0, 1) := by decide +kernel
theorem dX8_pushes_109 : decode cX8_pushes 109 = .ok (.ireturn, 1) := by decide +kernel
theorem dX8_goBehind_0 : decode cX8_goBehind 0 = .ok (.iconst 0, 1) := by decide +kernel
theorem dX8_goBehind_1 : decode cX8_goBehind 1 = .ok (.istore_n 2, 1) := by decide +kernel
theorem dX8_goBehind_2 : decode cX8_goBehind 2 = .ok (.iconst 0, 1) := by decide +kernel
theorem dX8_goBehind_3 : decode cX8_goBehind 3 = .ok (.istore_n 3, 1) := by decide +kernel
theorem dX8_goBehind_4 : decode cX8_goBehind 4 = .ok (.iload_n 3, 1) := by decide +kernel
theorem dX8_goBehind_5 : decode cX8_goBehind 5 = .ok (.aload_n 0, 1) := by decide +kernel
theorem dX8_goBehind_6 : decode cX8_goBehind 6 = .ok (.getfield 99, 3) := by decide +kernel
theorem dX8_goBehind_9 : decode cX8_goBehind 9 = .ok (.if_icmp .ge 34, 3) := by decide +kernel
theorem dX8_goBehind_12 : decode cX8_goBehind 12 = .ok (.aload_n 0, 1) := by decide +kernel
theorem dX8_goBehind_13 : decode cX8_goBehind 13 = .ok (.getfield 25, 3) := by decide +kernel
theorem dX8_goBehind_16 : decode cX8_goBehind 16 = .ok (.iload_n 3, 1) := by decide +kernel
theorem dX8_goBehind_17 : decode cX8_goBehind 17 = .ok (.iaload, 1) := by decide +kernel
theorem dX8_goBehind_18 : decode cX8_goBehind 18 = .ok (.iload_n 1, 1) := by decide +kernel
theorem dX8_goBehind_19 : decode cX8_goBehind 19 = .ok (.if_icmp .eq 18, 3) := by decide +kernel
theorem dX8_goBehind_22 : decode cX8_goBehind 22 = .ok (.aload_n 0, 1) := by decide +kernel
theorem dX8_goBehind_23 : decode cX8_goBehind 23 = .ok (.getfield 25, 3) := by decide +kernel
theorem dX8_goBehind_26 : decode cX8_goBehind 26 = .ok (.iload_n 2, 1) := by decide +kernel
theorem dX8_goBehind_27 : decode cX8_goBehind 27 = .ok (.aload_n 0, 1) := by decide +kernel
theorem dX8_goBehind_28 : decode cX8_goBehind 28 = .ok (.getfield 25, 3) := by decide +kernel
theorem dX8_goBehind_31 : decode cX8_goBehind 31 = .ok (.iload_n 3, 1) := by decide +kernel
theorem dX8_goBehind_32 : decode cX8_goBehind 32 = .ok (.iaload, 1) := by decide +kernel
theorem dX8_goBehind_33 : decode cX8_goBehind 33 = .ok (.iastore, 1) := by decide +kernel
theorem dX8_goBehind_34 : decode cX8_goBehind 34 = .ok (.iinc 2 1, 3) := by decide +kernel
theorem dX8_goBehind_37 : decode cX8_goBehind 37 = .ok (.iinc 3 1, 3) := by decide +kernel
theorem dX8_goBehind_40 : decode cX8_goBehind 40 = .ok (.goto (-36), 3) := by decide +kernel
theorem dX8_goBehind_43 : decode cX8_goBehind 43 = .ok (.aload_n 0, 1) := by decide +kernel
theorem dX8_goBehind_44 : decode cX8_goBehind 44 = .ok (.getfield 25, 3) := by decide +kernel
theorem dX8_goBehind_47 : decode cX8_goBehind 47 = .ok (.aload_n 0, 1) := by decide +kernel
theorem dX8_goBehind_48 : decode cX8_goBehind 48 = .ok (.getfield 99, 3) := by decide +kernel
theorem dX8_goBehind_51 : decode cX8_goBehind 51 = .ok (.iconst 1, 1) := by decide +kernel
theorem dX8_goBehind_52 : decode cX8_goBehind 52 = .ok (.isub, 1) := by decide +kernel
theorem dX8_goBehind_53 : decode cX8_goBehind 53 = .ok (.iload_n 1, 1) := by decide +kernel
theorem dX8_goBehind_54 : decode cX8_goBehind 54 = .ok (.iastore, 1) := by decide +kernel
theorem dX8_goBehind_55 : decode cX8_goBehind 55 = .ok (.return_, 1) := by decide +kernel
theorem dX8_goesBy_0 : decode cX8_goesBy 0 = .ok (.iconst 0, 1) := by decide +kernel
theorem dX8_goesBy_1 : decode cX8_goesBy 1 = .ok (.istore_n 1, 1) := by decide +kernel
theorem dX8_goesBy_2 : decode cX8_goesBy 2 = .ok (.iload_n 1, 1) := by decide +kernel
theorem dX8_goesBy_3 : decode cX8_goesBy 3 = .ok (.aload_n 0, 1) := by decide +kernel
theorem dX8_goesBy_4 : decode cX8_goesBy 4 = .ok (.getfield 99, 3) := by decide +kernel
theorem dX8_goesBy_7 : decode cX8_goesBy 7 = .ok (.if_icmp .ge 51, 3) := by decide +kernel
theorem dX8_goesBy_10 : decode cX8_goesBy 10 = .ok (.aload_n 0, 1) := by decide +kernel
theorem dX8_goesBy_11 : decode cX8_goesBy 11 = .ok (.getfield 22, 3) := by decide +kernel
theorem dX8_goesBy_14 : decode cX8_goesBy 14 = .ok (.iload_n 1, 1) := by decide +kernel
theorem dX8_goesBy_15 : decode cX8_goesBy 15 = .ok (.aload_n 0, 1) := by decide +kernel
theorem dX8_goesBy_16 : decode cX8_goesBy 16 = .ok (.getfield 22, 3) := by decide +kernel
theorem dX8_goesBy_19 : decode cX8_goesBy 19 = .ok (.iload_n 1, 1) := by decide +kernel
theorem dX8_goesBy_20 : decode cX8_goesBy 20 = .ok (.iaload, 1) := by decide +kernel
theorem dX8_goesBy_21 : decode cX8_goesBy 21 = .ok (.aload_n 0, 1) := by decide +kernel
theorem dX8_goesBy_22 : decode cX8_goesBy 22 = .ok (.getfield 19, 3) := by decide +kernel
theorem dX8_goesBy_25 : decode cX8_goesBy 25 = .ok (.iload_n 1, 1) := by decide +kernel
theorem dX8_goesBy_26 : decode cX8_goesBy 26 = .ok (.iaload, 1) := by decide +kernel
theorem dX8_goesBy_27 : decode cX8_goesBy 27 = .ok (.iadd, 1) := by decide +kernel
theorem dX8_goesBy_28 : decode cX8_goesBy 28 = .ok (.bipush 99, 2) := by decide +kernel
theorem dX8_goesBy_30 : decode cX8_goesBy 30 = .ok (.if_icmp .le 8, 3) := by decide +kernel
theorem dX8_goesBy_33 : decode cX8_goesBy 33 = .ok (.bipush 99, 2) := by decide +kernel
theorem dX8_goesBy_35 : decode cX8_goesBy 35 = .ok (.goto 16, 3) := by decide +kernel
theorem dX8_goesBy_38 : decode cX8_goesBy 38 = .ok (.aload_n 0, 1) := by decide +kernel
theorem dX8_goesBy_39 : decode cX8_goesBy 39 = .ok (.getfield 22, 3) := by decide +kernel
theorem dX8_goesBy_42 : decode cX8_goesBy 42 = .ok (.iload_n 1, 1) := by decide +kernel
theorem dX8_goesBy_43 : decode cX8_goesBy 43 = .ok (.iaload, 1) := by decide +kernel
theorem dX8_goesBy_44 : decode cX8_goesBy 44 = .ok (.aload_n 0, 1) := by decide +kernel
theorem dX8_goesBy_45 : decode cX8_goesBy 45 = .ok (.getfield 19, 3) := by decide +kernel
theorem dX8_goesBy_48 : decode cX8_goesBy 48 = .ok (.iload_n 1, 1) := by decide +kernel
theorem dX8_goesBy_49 : decode cX8_goesBy 49 = .ok (.iaload, 1) := by decide +kernel
theorem dX8_goesBy_50 : decode cX8_goesBy 50 = .ok (.iadd, 1) := by decide +kernel
theorem dX8_goesBy_51 : decode cX8_goesBy 51 = .ok (.iastore, 1) := by decide +kernel
theorem dX8_goesBy_52 : decode cX8_goesBy 52 = .ok (.iinc 1 1, 3) := by decide +kernel
theorem dX8_goesBy_55 : decode cX8_goesBy 55 = .ok (.goto (-53), 3) := by decide +kernel
theorem dX8_goesBy_58 : decode cX8_goesBy 58 = .ok (.iconst 1, 1) := by decide +kernel
theorem dX8_goesBy_59 : decode cX8_goesBy 59 = .ok (.istore_n 1, 1) := by decide +kernel
theorem dX8_goesBy_60 : decode cX8_goesBy 60 = .ok (.iload_n 1, 1) := by decide +kernel
theorem dX8_goesBy_61 : decode cX8_goesBy 61 = .ok (.aload_n 0, 1) := by decide +kernel
theorem dX8_goesBy_62 : decode cX8_goesBy 62 = .ok (.getfield 99, 3) := by decide +kernel
theorem dX8_goesBy_65 : decode cX8_goesBy 65 = .ok (.if_icmp .ge 50, 3) := by decide +kernel
theorem dX8_goesBy_68 : decode cX8_goesBy 68 = .ok (.aload_n 0, 1) := by decide +kernel
theorem dX8_goesBy_69 : decode cX8_goesBy 69 = .ok (.getfield 25, 3) := by decide +kernel
theorem dX8_goesBy_72 : decode cX8_goesBy 72 = .ok (.iload_n 1, 1) := by decide +kernel
theorem dX8_goesBy_73 : decode cX8_goesBy 73 = .ok (.iaload, 1) := by decide +kernel
theorem dX8_goesBy_74 : decode cX8_goesBy 74 = .ok (.istore_n 2, 1) := by decide +kernel
theorem dX8_goesBy_75 : decode cX8_goesBy 75 = .ok (.aload_n 0, 1) := by decide +kernel
theorem dX8_goesBy_76 : decode cX8_goesBy 76 = .ok (.getfield 25, 3) := by decide +kernel
theorem dX8_goesBy_79 : decode cX8_goesBy 79 = .ok (.iload_n 1, 1) := by decide +kernel
theorem dX8_goesBy_80 : decode cX8_goesBy 80 = .ok (.iconst 1, 1) := by decide +kernel
theorem dX8_goesBy_81 : decode cX8_goesBy 81 = .ok (.isub, 1) := by decide +kernel
theorem dX8_goesBy_82 : decode cX8_goesBy 82 = .ok (.iaload, 1) := by decide +kernel
theorem dX8_goesBy_83 : decode cX8_goesBy 83 = .ok (.istore_n 3, 1) := by decide +kernel
theorem dX8_goesBy_84 : decode cX8_goesBy 84 = .ok (.aload_n 0, 1) := by decide +kernel
theorem dX8_goesBy_85 : decode cX8_goesBy 85 = .ok (.iload_n 2, 1) := by decide +kernel
theorem dX8_goesBy_86 : decode cX8_goesBy 86 = .ok (.iload_n 3, 1) := by decide +kernel
theorem dX8_goesBy_87 : decode cX8_goesBy 87 = .ok (.invokevirtual 114, 3) := by decide +kernel
theorem dX8_goesBy_90 : decode cX8_goesBy 90 = .ok (.ifCond .eq 19, 3) := by decide +kernel
theorem dX8_goesBy_93 : decode cX8_goesBy 93 = .ok (.aload_n 0, 1) := by decide +kernel
theorem dX8_goesBy_94 : decode cX8_goesBy 94 = .ok (.getfield 25, 3) := by decide +kernel
theorem dX8_goesBy_97 : decode cX8_goesBy 97 = .ok (.iload_n 1, 1) := by decide +kernel
theorem dX8_goesBy_98 : decode cX8_goesBy 98 = .ok (.iload_n 3, 1) := by decide +kernel
theorem dX8_goesBy_99 : decode cX8_goesBy 99 = .ok (.iastore, 1) := by decide +kernel
theorem dX8_goesBy_100 : decode cX8_goesBy 100 = .ok (.aload_n 0, 1) := by decide +kernel
theorem dX8_goesBy_101 : decode cX8_goesBy 101 = .ok (.getfield 25, 3) := by decide +kernel
theorem dX8_goesBy_104 : decode cX8_goesBy 104 = .ok (.iload_n 1, 1) := by decide +kernel
theorem dX8_goesBy_105 : decode cX8_goesBy 105 = .ok (.iconst 1, 1) := by decide +kernel
theorem dX8_goesBy_106 : decode cX8_goesBy 106 = .ok (.isub, 1) := by decide +kernel
theorem dX8_goesBy_107 : decode cX8_goesBy 107 = .ok (.iload_n 2, 1) := by decide +kernel
theorem dX8_goesBy_108 : decode cX8_goesBy 108 = .ok (.iastore, 1) := by decide +kernel
theorem dX8_goesBy_109 : decode cX8_goesBy 109 = .ok (.iinc 1 1, 3) := by decide +kernel
theorem dX8_goesBy_112 : decode cX8_goesBy 112 = .ok (.goto (-52), 3) := by decide +kernel
theorem dX8_goesBy_115 : decode cX8_goesBy 115 = .ok (.aload_n 0, 1) := by decide +kernel
theorem dX8_goesBy_116 : decode cX8_goesBy 116 = .ok (.getfield 25, 3) := by decide +kernel
theorem dX8_goesBy_119 : decode cX8_goesBy 119 = .ok (.iconst 0, 1) := by decide +kernel
theorem dX8_goesBy_120 : decode cX8_goesBy 120 = .ok (.iaload, 1) := by decide +kernel
theorem dX8_goesBy_121 : decode cX8_goesBy 121 = .ok (.istore_n 1, 1) := by decide +kernel
theorem dX8_goesBy_122 : decode cX8_goesBy 122 = .ok (.aload_n 0, 1) := by decide +kernel
theorem dX8_goesBy_123 : decode cX8_goesBy 123 = .ok (.aload_n 0, 1) := by decide +kernel
theorem dX8_goesBy_124 : decode cX8_goesBy 124 = .ok (.getfield 22, 3) := by decide +kernel
theorem dX8_goesBy_127 : decode cX8_goesBy 127 = .ok (.iload_n 1, 1) := by decide +kernel
theorem dX8_goesBy_128 : decode cX8_goesBy 128 = .ok (.iaload, 1) := by decide +kernel
theorem dX8_goesBy_129 : decode cX8_goesBy 129 = .ok (.aload_n 0, 1) := by decide +kernel
theorem dX8_goesBy_130 : decode cX8_goesBy 130 = .ok (.getfield 102, 3) := by decide +kernel
theorem dX8_goesBy_133 : decode cX8_goesBy 133 = .ok (.if_icmp .ge 12, 3) := by decide +kernel
theorem dX8_goesBy_136 : decode cX8_goesBy 136 = .ok (.aload_n 0, 1) := by decide +kernel
theorem dX8_goesBy_137 : decode cX8_goesBy 137 = .ok (.getfield 22, 3) := by decide +kernel
theorem dX8_goesBy_140 : decode cX8_goesBy 140 = .ok (.iload_n 1, 1) := by decide +kernel
theorem dX8_goesBy_141 : decode cX8_goesBy 141 = .ok (.iaload, 1) := by decide +kernel
theorem dX8_goesBy_142 : decode cX8_goesBy 142 = .ok (.goto 7, 3) := by decide +kernel
theorem dX8_goesBy_145 : decode cX8_goesBy 145 = .ok (.aload_n 0, 1) := by decide +kernel
theorem dX8_goesBy_146 : decode cX8_goesBy 146 = .ok (.getfield 102, 3) := by decide +kernel
theorem dX8_goesBy_149 : decode cX8_goesBy 149 = .ok (.putfield 118, 3) := by decide +kernel
theorem dX8_goesBy_152 : decode cX8_goesBy 152 = .ok (.aload_n 0, 1) := by decide +kernel
theorem dX8_goesBy_153 : decode cX8_goesBy 153 = .ok (.aload_n 0, 1) := by decide +kernel
theorem dX8_goesBy_154 : decode cX8_goesBy 154 = .ok (.getfield 118, 3) := by decide +kernel
theorem dX8_goesBy_157 : decode cX8_goesBy 157 = .ok (.ifCond .le 7, 3) := by decide +kernel
theorem dX8_goesBy_160 : decode cX8_goesBy 160 = .ok (.iload_n 1, 1) := by decide +kernel
theorem dX8_goesBy_161 : decode cX8_goesBy 161 = .ok (.goto 4, 3) := by decide +kernel
theorem dX8_goesBy_164 : decode cX8_goesBy 164 = .ok (.iconst (-1), 1) := by decide +kernel
theorem dX8_goesBy_165 : decode cX8_goesBy 165 = .ok (.putfield 121, 3) := by decide +kernel
theorem dX8_goesBy_168 : decode cX8_goesBy 168 = .ok (.aload_n 0, 1) := by decide +kernel
theorem dX8_goesBy_169 : decode cX8_goesBy 169 = .ok (.getfield 22, 3) := by decide +kernel
theorem dX8_goesBy_172 : decode cX8_goesBy 172 = .ok (.iload_n 1, 1) := by decide +kernel
theorem dX8_goesBy_173 : decode cX8_goesBy 173 = .ok (.dup2, 1) := by decide +kernel
theorem dX8_goesBy_174 : decode cX8_goesBy 174 = .ok (.iaload, 1) := by decide +kernel
theorem dX8_goesBy_175 : decode cX8_goesBy 175 = .ok (.aload_n 0, 1) := by decide +kernel
theorem dX8_goesBy_176 : decode cX8_goesBy 176 = .ok (.getfield 118, 3) := by decide +kernel
theorem dX8_goesBy_179 : decode cX8_goesBy 179 = .ok (.isub, 1) := by decide +kernel
theorem dX8_goesBy_180 : decode cX8_goesBy 180 = .ok (.iastore, 1) := by decide +kernel
theorem dX8_goesBy_181 : decode cX8_goesBy 181 = .ok (.aload_n 0, 1) := by decide +kernel
theorem dX8_goesBy_182 : decode cX8_goesBy 182 = .ok (.getfield 22, 3) := by decide +kernel
theorem dX8_goesBy_185 : decode cX8_goesBy 185 = .ok (.iload_n 1, 1) := by decide +kernel
theorem dX8_goesBy_186 : decode cX8_goesBy 186 = .ok (.iaload, 1) := by decide +kernel
theorem dX8_goesBy_187 : decode cX8_goesBy 187 = .ok (.ifCond .ne 8, 3) := by decide +kernel
theorem dX8_goesBy_190 : decode cX8_goesBy 190 = .ok (.aload_n 0, 1) := by decide +kernel
theorem dX8_goesBy_191 : decode cX8_goesBy 191 = .ok (.iload_n 1, 1) := by decide +kernel
theorem dX8_goesBy_192 : decode cX8_goesBy 192 = .ok (.invokevirtual 124, 3) := by decide +kernel
theorem dX8_goesBy_195 : decode cX8_goesBy 195 = .ok (.return_, 1) := by decide +kernel
theorem dX8_standing_0 : decode cX8_standing 0 = .ok (.iconst 0, 1) := by decide +kernel
theorem dX8_standing_1 : decode cX8_standing 1 = .ok (.istore_n 1, 1) := by decide +kernel
theorem dX8_standing_2 : decode cX8_standing 2 = .ok (.iconst 0, 1) := by decide +kernel
theorem dX8_standing_3 : decode cX8_standing 3 = .ok (.istore_n 2, 1) := by decide +kernel
theorem dX8_standing_4 : decode cX8_standing 4 = .ok (.iload_n 2, 1) := by decide +kernel
theorem dX8_standing_5 : decode cX8_standing 5 = .ok (.aload_n 0, 1) := by decide +kernel
theorem dX8_standing_6 : decode cX8_standing 6 = .ok (.getfield 99, 3) := by decide +kernel
theorem dX8_standing_9 : decode cX8_standing 9 = .ok (.if_icmp .ge 18, 3) := by decide +kernel
theorem dX8_standing_12 : decode cX8_standing 12 = .ok (.iload_n 1, 1) := by decide +kernel
theorem dX8_standing_13 : decode cX8_standing 13 = .ok (.aload_n 0, 1) := by decide +kernel
theorem dX8_standing_14 : decode cX8_standing 14 = .ok (.getfield 22, 3) := by decide +kernel
theorem dX8_standing_17 : decode cX8_standing 17 = .ok (.iload_n 2, 1) := by decide +kernel
theorem dX8_standing_18 : decode cX8_standing 18 = .ok (.iaload, 1) := by decide +kernel
theorem dX8_standing_19 : decode cX8_standing 19 = .ok (.iadd, 1) := by decide +kernel
theorem dX8_standing_20 : decode cX8_standing 20 = .ok (.istore_n 1, 1) := by decide +kernel
theorem dX8_standing_21 : decode cX8_standing 21 = .ok (.iinc 2 1, 3) := by decide +kernel
theorem dX8_standing_24 : decode cX8_standing 24 = .ok (.goto (-20), 3) := by decide +kernel
theorem dX8_standing_27 : decode cX8_standing 27 = .ok (.iload_n 1, 1) := by decide +kernel
theorem dX8_standing_28 : decode cX8_standing 28 = .ok (.ireturn, 1) := by decide +kernel
theorem dX8_layAside_0 : decode cX8_layAside 0 = .ok (.aload_n 0, 1) := by decide +kernel
theorem dX8_layAside_1 : decode cX8_layAside 1 = .ok (.getfield 22, 3) := by decide +kernel
theorem dX8_layAside_4 : decode cX8_layAside 4 = .ok (.aload_n 0, 1) := by decide +kernel
theorem dX8_layAside_5 : decode cX8_layAside 5 = .ok (.getfield 31, 3) := by decide +kernel
theorem dX8_layAside_8 : decode cX8_layAside 8 = .ok (.invokestatic 128, 3) := by decide +kernel
theorem dX8_layAside_11 : decode cX8_layAside 11 = .ok (.aload_n 0, 1) := by decide +kernel
theorem dX8_layAside_12 : decode cX8_layAside 12 = .ok (.getfield 25, 3) := by decide +kernel
theorem dX8_layAside_15 : decode cX8_layAside 15 = .ok (.aload_n 0, 1) := by decide +kernel
theorem dX8_layAside_16 : decode cX8_layAside 16 = .ok (.getfield 34, 3) := by decide +kernel
theorem dX8_layAside_19 : decode cX8_layAside 19 = .ok (.invokestatic 128, 3) := by decide +kernel
theorem dX8_layAside_22 : decode cX8_layAside 22 = .ok (.return_, 1) := by decide +kernel
theorem dX8_layBack_0 : decode cX8_layBack 0 = .ok (.aload_n 0, 1) := by decide +kernel
theorem dX8_layBack_1 : decode cX8_layBack 1 = .ok (.getfield 31, 3) := by decide +kernel
theorem dX8_layBack_4 : decode cX8_layBack 4 = .ok (.aload_n 0, 1) := by decide +kernel
theorem dX8_layBack_5 : decode cX8_layBack 5 = .ok (.getfield 22, 3) := by decide +kernel
theorem dX8_layBack_8 : decode cX8_layBack 8 = .ok (.invokestatic 128, 3) := by decide +kernel
theorem dX8_layBack_11 : decode cX8_layBack 11 = .ok (.aload_n 0, 1) := by decide +kernel
theorem dX8_layBack_12 : decode cX8_layBack 12 = .ok (.getfield 34, 3) := by decide +kernel
theorem dX8_layBack_15 : decode cX8_layBack 15 = .ok (.aload_n 0, 1) := by decide +kernel
theorem dX8_layBack_16 : decode cX8_layBack 16 = .ok (.getfield 25, 3) := by decide +kernel
theorem dX8_layBack_19 : decode cX8_layBack 19 = .ok (.invokestatic 128, 3) := by decide +kernel
theorem dX8_layBack_22 : decode cX8_layBack 22 = .ok (.return_, 1) := by decide +kernel
theorem dX8_waitsOf_0 : decode cX8_waitsOf 0 = .ok (.aload_n 0, 1) := by decide +kernel
theorem dX8_waitsOf_1 : decode cX8_waitsOf 1 = .ok (.invokevirtual 132, 3) := by decide +kernel
theorem dX8_waitsOf_4 : decode cX8_waitsOf 4 = .ok (.iconst (-1), 1) := by decide +kernel
theorem dX8_waitsOf_5 : decode cX8_waitsOf 5 = .ok (.istore_n 2, 1) := by decide +kernel
theorem dX8_waitsOf_6 : decode cX8_waitsOf 6 = .ok (.iconst 1, 1) := by decide +kernel
theorem dX8_waitsOf_7 : decode cX8_waitsOf 7 = .ok (.istore_n 3, 1) := by decide +kernel
theorem dX8_waitsOf_8 : decode cX8_waitsOf 8 = .ok (.iload_n 3, 1) := by decide +kernel
theorem dX8_waitsOf_9 : decode cX8_waitsOf 9 = .ok (.bipush 61, 2) := by decide +kernel
theorem dX8_waitsOf_11 : decode cX8_waitsOf 11 = .ok (.if_icmp .ge 32, 3) := by decide +kernel
theorem dX8_waitsOf_14 : decode cX8_waitsOf 14 = .ok (.iload_n 2, 1) := by decide +kernel
theorem dX8_waitsOf_15 : decode cX8_waitsOf 15 = .ok (.iconst (-1), 1) := by decide +kernel
theorem dX8_waitsOf_16 : decode cX8_waitsOf 16 = .ok (.if_icmp .ne 27, 3) := by decide +kernel
theorem dX8_waitsOf_19 : decode cX8_waitsOf 19 = .ok (.aload_n 0, 1) := by decide +kernel
theorem dX8_waitsOf_20 : decode cX8_waitsOf 20 = .ok (.invokevirtual 135, 3) := by decide +kernel
theorem dX8_waitsOf_23 : decode cX8_waitsOf 23 = .ok (.aload_n 0, 1) := by decide +kernel
theorem dX8_waitsOf_24 : decode cX8_waitsOf 24 = .ok (.getfield 121, 3) := by decide +kernel
theorem dX8_waitsOf_27 : decode cX8_waitsOf 27 = .ok (.iload_n 1, 1) := by decide +kernel
theorem dX8_waitsOf_28 : decode cX8_waitsOf 28 = .ok (.if_icmp .ne 7, 3) := by decide +kernel
theorem dX8_waitsOf_31 : decode cX8_waitsOf 31 = .ok (.iload_n 3, 1) := by decide +kernel
theorem dX8_waitsOf_32 : decode cX8_waitsOf 32 = .ok (.goto 4, 3) := by decide +kernel
theorem dX8_waitsOf_35 : decode cX8_waitsOf 35 = .ok (.iconst (-1), 1) := by decide +kernel
theorem dX8_waitsOf_36 : decode cX8_waitsOf 36 = .ok (.istore_n 2, 1) := by decide +kernel
theorem dX8_waitsOf_37 : decode cX8_waitsOf 37 = .ok (.iinc 3 1, 3) := by decide +kernel
theorem dX8_waitsOf_40 : decode cX8_waitsOf 40 = .ok (.goto (-32), 3) := by decide +kernel
theorem dX8_waitsOf_43 : decode cX8_waitsOf 43 = .ok (.aload_n 0, 1) := by decide +kernel
theorem dX8_waitsOf_44 : decode cX8_waitsOf 44 = .ok (.invokevirtual 138, 3) := by decide +kernel
theorem dX8_waitsOf_47 : decode cX8_waitsOf 47 = .ok (.iload_n 2, 1) := by decide +kernel
theorem dX8_waitsOf_48 : decode cX8_waitsOf 48 = .ok (.ireturn, 1) := by decide +kernel
theorem dX8_placeOf_0 : decode cX8_placeOf 0 = .ok (.iconst (-1), 1) := by decide +kernel
theorem dX8_placeOf_1 : decode cX8_placeOf 1 = .ok (.istore_n 2, 1) := by decide +kernel
theorem dX8_placeOf_2 : decode cX8_placeOf 2 = .ok (.iconst 0, 1) := by decide +kernel
theorem dX8_placeOf_3 : decode cX8_placeOf 3 = .ok (.istore_n 3, 1) := by decide +kernel
theorem dX8_placeOf_4 : decode cX8_placeOf 4 = .ok (.iload_n 3, 1) := by decide +kernel
theorem dX8_placeOf_5 : decode cX8_placeOf 5 = .ok (.aload_n 0, 1) := by decide +kernel
theorem dX8_placeOf_6 : decode cX8_placeOf 6 = .ok (.getfield 99, 3) := by decide +kernel
theorem dX8_placeOf_9 : decode cX8_placeOf 9 = .ok (.if_icmp .ge 25, 3) := by decide +kernel
theorem dX8_placeOf_12 : decode cX8_placeOf 12 = .ok (.aload_n 0, 1) := by decide +kernel
theorem dX8_placeOf_13 : decode cX8_placeOf 13 = .ok (.getfield 25, 3) := by decide +kernel
theorem dX8_placeOf_16 : decode cX8_placeOf 16 = .ok (.iload_n 3, 1) := by decide +kernel
theorem dX8_placeOf_17 : decode cX8_placeOf 17 = .ok (.iaload, 1) := by decide +kernel
theorem dX8_placeOf_18 : decode cX8_placeOf 18 = .ok (.iload_n 1, 1) := by decide +kernel
theorem dX8_placeOf_19 : decode cX8_placeOf 19 = .ok (.if_icmp .ne 7, 3) := by decide +kernel
theorem dX8_placeOf_22 : decode cX8_placeOf 22 = .ok (.iload_n 3, 1) := by decide +kernel
theorem dX8_placeOf_23 : decode cX8_placeOf 23 = .ok (.goto 4, 3) := by decide +kernel
theorem dX8_placeOf_26 : decode cX8_placeOf 26 = .ok (.iload_n 2, 1) := by decide +kernel
theorem dX8_placeOf_27 : decode cX8_placeOf 27 = .ok (.istore_n 2, 1) := by decide +kernel
theorem dX8_placeOf_28 : decode cX8_placeOf 28 = .ok (.iinc 3 1, 3) := by decide +kernel
theorem dX8_placeOf_31 : decode cX8_placeOf 31 = .ok (.goto (-27), 3) := by decide +kernel
theorem dX8_placeOf_34 : decode cX8_placeOf 34 = .ok (.iload_n 2, 1) := by decide +kernel
theorem dX8_placeOf_35 : decode cX8_placeOf 35 = .ok (.ireturn, 1) := by decide +kernel
theorem dX8_tell_0 : decode cX8_tell 0 = .ok (.iload_n 2, 1) := by decide +kernel
theorem dX8_tell_1 : decode cX8_tell 1 = .ok (.tableswitch 99 0 7 #[47, 54, 61, 68, 74, 81, 87, 93], 47) := by decide +kernel
theorem dX8_tell_48 : decode cX8_tell 48 = .ok (.aload_n 0, 1) := by decide +kernel
theorem dX8_tell_49 : decode cX8_tell 49 = .ok (.getfield 16, 3) := by decide +kernel
theorem dX8_tell_52 : decode cX8_tell 52 = .ok (.iload_n 1, 1) := by decide +kernel
theorem dX8_tell_53 : decode cX8_tell 53 = .ok (.iaload, 1) := by decide +kernel
theorem dX8_tell_54 : decode cX8_tell 54 = .ok (.ireturn, 1) := by decide +kernel
theorem dX8_tell_55 : decode cX8_tell 55 = .ok (.aload_n 0, 1) := by decide +kernel
theorem dX8_tell_56 : decode cX8_tell 56 = .ok (.getfield 22, 3) := by decide +kernel
theorem dX8_tell_59 : decode cX8_tell 59 = .ok (.iload_n 1, 1) := by decide +kernel
theorem dX8_tell_60 : decode cX8_tell 60 = .ok (.iaload, 1) := by decide +kernel
theorem dX8_tell_61 : decode cX8_tell 61 = .ok (.ireturn, 1) := by decide +kernel
theorem dX8_tell_62 : decode cX8_tell 62 = .ok (.aload_n 0, 1) := by decide +kernel
theorem dX8_tell_63 : decode cX8_tell 63 = .ok (.getfield 19, 3) := by decide +kernel
theorem dX8_tell_66 : decode cX8_tell 66 = .ok (.iload_n 1, 1) := by decide +kernel
theorem dX8_tell_67 : decode cX8_tell 67 = .ok (.iaload, 1) := by decide +kernel
theorem dX8_tell_68 : decode cX8_tell 68 = .ok (.ireturn, 1) := by decide +kernel
theorem dX8_tell_69 : decode cX8_tell 69 = .ok (.aload_n 0, 1) := by decide +kernel
theorem dX8_tell_70 : decode cX8_tell 70 = .ok (.iload_n 1, 1) := by decide +kernel
theorem dX8_tell_71 : decode cX8_tell 71 = .ok (.invokevirtual 141, 3) := by decide +kernel
theorem dX8_tell_74 : decode cX8_tell 74 = .ok (.ireturn, 1) := by decide +kernel
theorem dX8_tell_75 : decode cX8_tell 75 = .ok (.aload_n 0, 1) := by decide +kernel
theorem dX8_tell_76 : decode cX8_tell 76 = .ok (.getfield 28, 3) := by decide +kernel
theorem dX8_tell_79 : decode cX8_tell 79 = .ok (.iload_n 1, 1) := by decide +kernel
theorem dX8_tell_80 : decode cX8_tell 80 = .ok (.iaload, 1) := by decide +kernel
theorem dX8_tell_81 : decode cX8_tell 81 = .ok (.ireturn, 1) := by decide +kernel
theorem dX8_tell_82 : decode cX8_tell 82 = .ok (.aload_n 0, 1) := by decide +kernel
theorem dX8_tell_83 : decode cX8_tell 83 = .ok (.iload_n 1, 1) := by decide +kernel
theorem dX8_tell_84 : decode cX8_tell 84 = .ok (.invokevirtual 144, 3) := by decide +kernel
theorem dX8_tell_87 : decode cX8_tell 87 = .ok (.ireturn, 1) := by decide +kernel
theorem dX8_tell_88 : decode cX8_tell 88 = .ok (.aload_n 0, 1) := by decide +kernel
theorem dX8_tell_89 : decode cX8_tell 89 = .ok (.iload_n 1, 1) := by decide +kernel
theorem dX8_tell_90 : decode cX8_tell 90 = .ok (.invokevirtual 147, 3) := by decide +kernel
theorem dX8_tell_93 : decode cX8_tell 93 = .ok (.ireturn, 1) := by decide +kernel
theorem dX8_tell_94 : decode cX8_tell 94 = .ok (.aload_n 0, 1) := by decide +kernel
theorem dX8_tell_95 : decode cX8_tell 95 = .ok (.iload_n 1, 1) := by decide +kernel
theorem dX8_tell_96 : decode cX8_tell 96 = .ok (.invokevirtual 150, 3) := by decide +kernel
theorem dX8_tell_99 : decode cX8_tell 99 = .ok (.ireturn, 1) := by decide +kernel
theorem dX8_tell_100 : decode cX8_tell 100 = .ok (.bipush (-102), 2) := by decide +kernel
theorem dX8_tell_102 : decode cX8_tell 102 = .ok (.ireturn, 1) := by decide +kernel
theorem dX8_river_0 : decode cX8_river 0 = .ok (.aload_n 0, 1) := by decide +kernel
theorem dX8_river_1 : decode cX8_river 1 = .ok (.iload_n 1, 1) := by decide +kernel
theorem dX8_river_2 : decode cX8_river 2 = .ok (.invokevirtual 153, 3) := by decide +kernel
theorem dX8_river_5 : decode cX8_river 5 = .ok (.ifCond .eq 12, 3) := by decide +kernel
theorem dX8_river_8 : decode cX8_river 8 = .ok (.aload_n 0, 1) := by decide +kernel
theorem dX8_river_9 : decode cX8_river 9 = .ok (.iload_n 1, 1) := by decide +kernel
theorem dX8_river_10 : decode cX8_river 10 = .ok (.iload_n 2, 1) := by decide +kernel
theorem dX8_river_11 : decode cX8_river 11 = .ok (.invokevirtual 156, 3) := by decide +kernel
theorem dX8_river_14 : decode cX8_river 14 = .ok (.goto 5, 3) := by decide +kernel
theorem dX8_river_17 : decode cX8_river 17 = .ok (.bipush (-101), 2) := by decide +kernel
theorem dX8_river_19 : decode cX8_river 19 = .ok (.ireturn, 1) := by decide +kernel
theorem dX8_as_0 : decode cX8_as 0 = .ok (.aload_n 0, 1) := by decide +kernel
theorem dX8_as_1 : decode cX8_as 1 = .ok (.iload_n 1, 1) := by decide +kernel
theorem dX8_as_2 : decode cX8_as 2 = .ok (.invokevirtual 153, 3) := by decide +kernel
theorem dX8_as_5 : decode cX8_as 5 = .ok (.ifCond .ne 6, 3) := by decide +kernel
theorem dX8_as_8 : decode cX8_as 8 = .ok (.bipush (-101), 2) := by decide +kernel
theorem dX8_as_10 : decode cX8_as 10 = .ok (.ireturn, 1) := by decide +kernel
theorem dX8_as_11 : decode cX8_as 11 = .ok (.iload_n 2, 1) := by decide +kernel
theorem dX8_as_12 : decode cX8_as 12 = .ok (.i2l, 1) := by decide +kernel
theorem dX8_as_13 : decode cX8_as 13 = .ok (.lconst 0, 1) := by decide +kernel
theorem dX8_as_14 : decode cX8_as 14 = .ok (.ldc2_w 160, 3) := by decide +kernel
theorem dX8_as_17 : decode cX8_as 17 = .ok (.invokestatic 67, 3) := by decide +kernel
theorem dX8_as_20 : decode cX8_as 20 = .ok (.ifCond .ne 6, 3) := by decide +kernel
theorem dX8_as_23 : decode cX8_as 23 = .ok (.bipush (-102), 2) := by decide +kernel
theorem dX8_as_25 : decode cX8_as 25 = .ok (.ireturn, 1) := by decide +kernel
theorem dX8_as_26 : decode cX8_as 26 = .ok (.iload_n 2, 1) := by decide +kernel
theorem dX8_as_27 : decode cX8_as 27 = .ok (.ifCond .eq 28, 3) := by decide +kernel
theorem dX8_as_30 : decode cX8_as 30 = .ok (.iload_n 2, 1) := by decide +kernel
theorem dX8_as_31 : decode cX8_as 31 = .ok (.aload_n 0, 1) := by decide +kernel
theorem dX8_as_32 : decode cX8_as 32 = .ok (.getfield 16, 3) := by decide +kernel
theorem dX8_as_35 : decode cX8_as 35 = .ok (.iload_n 1, 1) := by decide +kernel
theorem dX8_as_36 : decode cX8_as 36 = .ok (.iaload, 1) := by decide +kernel
theorem dX8_as_37 : decode cX8_as 37 = .ok (.if_icmp .eq 18, 3) := by decide +kernel
theorem dX8_as_40 : decode cX8_as 40 = .ok (.iload_n 2, 1) := by decide +kernel
theorem dX8_as_41 : decode cX8_as 41 = .ok (.iconst 1, 1) := by decide +kernel
theorem dX8_as_42 : decode cX8_as 42 = .ok (.if_icmp .ne 17, 3) := by decide +kernel
theorem dX8_as_45 : decode cX8_as 45 = .ok (.aload_n 0, 1) := by decide +kernel
theorem dX8_as_46 : decode cX8_as 46 = .ok (.getfield 16, 3) := by decide +kernel
theorem dX8_as_49 : decode cX8_as 49 = .ok (.iload_n 1, 1) := by decide +kernel
theorem dX8_as_50 : decode cX8_as 50 = .ok (.iaload, 1) := by decide +kernel
theorem dX8_as_51 : decode cX8_as 51 = .ok (.iconst 4, 1) := by decide +kernel
theorem dX8_as_52 : decode cX8_as 52 = .ok (.if_icmp .ne 7, 3) := by decide +kernel
theorem dX8_as_55 : decode cX8_as 55 = .ok (.iconst 1, 1) := by decide +kernel
theorem dX8_as_56 : decode cX8_as 56 = .ok (.goto 4, 3) := by decide +kernel
theorem dX8_as_59 : decode cX8_as 59 = .ok (.iconst 0, 1) := by decide +kernel
theorem dX8_as_60 : decode cX8_as 60 = .ok (.istore_n 3, 1) := by decide +kernel
theorem dX8_as_61 : decode cX8_as 61 = .ok (.iload_n 3, 1) := by decide +kernel
theorem dX8_as_62 : decode cX8_as 62 = .ok (.ifCond .eq 7, 3) := by decide +kernel
theorem dX8_as_65 : decode cX8_as 65 = .ok (.iload_n 1, 1) := by decide +kernel
theorem dX8_as_66 : decode cX8_as 66 = .ok (.goto 4, 3) := by decide +kernel
theorem dX8_as_69 : decode cX8_as 69 = .ok (.iconst (-1), 1) := by decide +kernel
theorem dX8_as_70 : decode cX8_as 70 = .ok (.ireturn, 1) := by decide +kernel
theorem dX8_row_0 : decode cX8_row 0 = .ok (.aload_n 0, 1) := by decide +kernel
theorem dX8_row_1 : decode cX8_row 1 = .ok (.iload_n 1, 1) := by decide +kernel
theorem dX8_row_2 : decode cX8_row 2 = .ok (.invokevirtual 153, 3) := by decide +kernel
theorem dX8_row_5 : decode cX8_row 5 = .ok (.ifCond .eq 12, 3) := by decide +kernel
theorem dX8_row_8 : decode cX8_row 8 = .ok (.aload_n 0, 1) := by decide +kernel
theorem dX8_row_9 : decode cX8_row 9 = .ok (.getfield 25, 3) := by decide +kernel
theorem dX8_row_12 : decode cX8_row 12 = .ok (.iload_n 1, 1) := by decide +kernel
theorem dX8_row_13 : decode cX8_row 13 = .ok (.iaload, 1) := by decide +kernel
theorem dX8_row_14 : decode cX8_row 14 = .ok (.goto 5, 3) := by decide +kernel
theorem dX8_row_17 : decode cX8_row 17 = .ok (.bipush (-101), 2) := by decide +kernel
theorem dX8_row_19 : decode cX8_row 19 = .ok (.ireturn, 1) := by decide +kernel
theorem dX8_hour_0 : decode cX8_hour 0 = .ok (.aload_n 0, 1) := by decide +kernel
theorem dX8_hour_1 : decode cX8_hour 1 = .ok (.invokevirtual 162, 3) := by decide +kernel
theorem dX8_hour_4 : decode cX8_hour 4 = .ok (.ifCond .eq 6, 3) := by decide +kernel
theorem dX8_hour_7 : decode cX8_hour 7 = .ok (.bipush (-103), 2) := by decide +kernel
theorem dX8_hour_9 : decode cX8_hour 9 = .ok (.ireturn, 1) := by decide +kernel
theorem dX8_hour_10 : decode cX8_hour 10 = .ok (.aload_n 0, 1) := by decide +kernel
theorem dX8_hour_11 : decode cX8_hour 11 = .ok (.invokevirtual 135, 3) := by decide +kernel
theorem dX8_hour_14 : decode cX8_hour 14 = .ok (.aload_n 0, 1) := by decide +kernel
theorem dX8_hour_15 : decode cX8_hour 15 = .ok (.getfield 121, 3) := by decide +kernel
theorem dX8_hour_18 : decode cX8_hour 18 = .ok (.iconst (-1), 1) := by decide +kernel
theorem dX8_hour_19 : decode cX8_hour 19 = .ok (.if_icmp .eq 19, 3) := by decide +kernel
theorem dX8_hour_22 : decode cX8_hour 22 = .ok (.aload_n 0, 1) := by decide +kernel
theorem dX8_hour_23 : decode cX8_hour 23 = .ok (.getfield 28, 3) := by decide +kernel
theorem dX8_hour_26 : decode cX8_hour 26 = .ok (.aload_n 0, 1) := by decide +kernel
theorem dX8_hour_27 : decode cX8_hour 27 = .ok (.getfield 121, 3) := by decide +kernel
theorem dX8_hour_30 : decode cX8_hour 30 = .ok (.dup2, 1) := by decide +kernel
theorem dX8_hour_31 : decode cX8_hour 31 = .ok (.iaload, 1) := by decide +kernel
theorem dX8_hour_32 : decode cX8_hour 32 = .ok (.aload_n 0, 1) := by decide +kernel
theorem dX8_hour_33 : decode cX8_hour 33 = .ok (.getfield 118, 3) := by decide +kernel
theorem dX8_hour_36 : decode cX8_hour 36 = .ok (.iadd, 1) := by decide +kernel
theorem dX8_hour_37 : decode cX8_hour 37 = .ok (.iastore, 1) := by decide +kernel
theorem dX8_hour_38 : decode cX8_hour 38 = .ok (.aload_n 0, 1) := by decide +kernel
theorem dX8_hour_39 : decode cX8_hour 39 = .ok (.dup, 1) := by decide +kernel
theorem dX8_hour_40 : decode cX8_hour 40 = .ok (.getfield 105, 3) := by decide +kernel
theorem dX8_hour_43 : decode cX8_hour 43 = .ok (.iconst 1, 1) := by decide +kernel
theorem dX8_hour_44 : decode cX8_hour 44 = .ok (.iadd, 1) := by decide +kernel
theorem dX8_hour_45 : decode cX8_hour 45 = .ok (.putfield 105, 3) := by decide +kernel
theorem dX8_hour_48 : decode cX8_hour 48 = .ok (.aload_n 0, 1) := by decide +kernel
theorem dX8_hour_49 : decode cX8_hour 49 = .ok (.getfield 118, 3) := by decide +kernel
theorem dX8_hour_52 : decode cX8_hour 52 = .ok (.ireturn, 1) := by decide +kernel
theorem dX8_rains_0 : decode cX8_rains 0 = .ok (.aload_n 0, 1) := by decide +kernel
theorem dX8_rains_1 : decode cX8_rains 1 = .ok (.getfield 22, 3) := by decide +kernel
theorem dX8_rains_4 : decode cX8_rains 4 = .ok (.iload_n 1, 1) := by decide +kernel
theorem dX8_rains_5 : decode cX8_rains 5 = .ok (.aload_n 0, 1) := by decide +kernel
theorem dX8_rains_6 : decode cX8_rains 6 = .ok (.getfield 22, 3) := by decide +kernel
theorem dX8_rains_9 : decode cX8_rains 9 = .ok (.iload_n 1, 1) := by decide +kernel
theorem dX8_rains_10 : decode cX8_rains 10 = .ok (.iaload, 1) := by decide +kernel
theorem dX8_rains_11 : decode cX8_rains 11 = .ok (.iload_n 2, 1) := by decide +kernel
theorem dX8_rains_12 : decode cX8_rains 12 = .ok (.iadd, 1) := by decide +kernel
theorem dX8_rains_13 : decode cX8_rains 13 = .ok (.bipush 99, 2) := by decide +kernel
theorem dX8_rains_15 : decode cX8_rains 15 = .ok (.if_icmp .le 8, 3) := by decide +kernel
theorem dX8_rains_18 : decode cX8_rains 18 = .ok (.bipush 99, 2) := by decide +kernel
theorem dX8_rains_20 : decode cX8_rains 20 = .ok (.goto 11, 3) := by decide +kernel
theorem dX8_rains_23 : decode cX8_rains 23 = .ok (.aload_n 0, 1) := by decide +kernel
theorem dX8_rains_24 : decode cX8_rains 24 = .ok (.getfield 22, 3) := by decide +kernel
theorem dX8_rains_27 : decode cX8_rains 27 = .ok (.iload_n 1, 1) := by decide +kernel
theorem dX8_rains_28 : decode cX8_rains 28 = .ok (.iaload, 1) := by decide +kernel
theorem dX8_rains_29 : decode cX8_rains 29 = .ok (.iload_n 2, 1) := by decide +kernel
theorem dX8_rains_30 : decode cX8_rains 30 = .ok (.iadd, 1) := by decide +kernel
theorem dX8_rains_31 : decode cX8_rains 31 = .ok (.iastore, 1) := by decide +kernel
theorem dX8_rains_32 : decode cX8_rains 32 = .ok (.aload_n 0, 1) := by decide +kernel
theorem dX8_rains_33 : decode cX8_rains 33 = .ok (.getfield 22, 3) := by decide +kernel
theorem dX8_rains_36 : decode cX8_rains 36 = .ok (.iload_n 1, 1) := by decide +kernel
theorem dX8_rains_37 : decode cX8_rains 37 = .ok (.iaload, 1) := by decide +kernel
theorem dX8_rains_38 : decode cX8_rains 38 = .ok (.ireturn, 1) := by decide +kernel
theorem dX8_rain_0 : decode cX8_rain 0 = .ok (.aload_n 0, 1) := by decide +kernel
theorem dX8_rain_1 : decode cX8_rain 1 = .ok (.iload_n 1, 1) := by decide +kernel
theorem dX8_rain_2 : decode cX8_rain 2 = .ok (.invokevirtual 153, 3) := by decide +kernel
theorem dX8_rain_5 : decode cX8_rain 5 = .ok (.ifCond .ne 6, 3) := by decide +kernel
theorem dX8_rain_8 : decode cX8_rain 8 = .ok (.bipush (-101), 2) := by decide +kernel
theorem dX8_rain_10 : decode cX8_rain 10 = .ok (.ireturn, 1) := by decide +kernel
theorem dX8_rain_11 : decode cX8_rain 11 = .ok (.iload_n 2, 1) := by decide +kernel
theorem dX8_rain_12 : decode cX8_rain 12 = .ok (.i2l, 1) := by decide +kernel
theorem dX8_rain_13 : decode cX8_rain 13 = .ok (.lconst 1, 1) := by decide +kernel
theorem dX8_rain_14 : decode cX8_rain 14 = .ok (.ldc2_w 166, 3) := by decide +kernel
theorem dX8_rain_17 : decode cX8_rain 17 = .ok (.invokestatic 67, 3) := by decide +kernel
theorem dX8_rain_20 : decode cX8_rain 20 = .ok (.ifCond .eq 12, 3) := by decide +kernel
theorem dX8_rain_23 : decode cX8_rain 23 = .ok (.aload_n 0, 1) := by decide +kernel
theorem dX8_rain_24 : decode cX8_rain 24 = .ok (.iload_n 1, 1) := by decide +kernel
theorem dX8_rain_25 : decode cX8_rain 25 = .ok (.iload_n 2, 1) := by decide +kernel
theorem dX8_rain_26 : decode cX8_rain 26 = .ok (.invokevirtual 168, 3) := by decide +kernel
theorem dX8_rain_29 : decode cX8_rain 29 = .ok (.goto 5, 3) := by decide +kernel
theorem dX8_rain_32 : decode cX8_rain 32 = .ok (.bipush (-102), 2) := by decide +kernel
theorem dX8_rain_34 : decode cX8_rain 34 = .ok (.ireturn, 1) := by decide +kernel
theorem dX8_drought_0 : decode cX8_drought 0 = .ok (.aload_n 0, 1) := by decide +kernel
theorem dX8_drought_1 : decode cX8_drought 1 = .ok (.iload_n 1, 1) := by decide +kernel
theorem dX8_drought_2 : decode cX8_drought 2 = .ok (.invokevirtual 153, 3) := by decide +kernel
theorem dX8_drought_5 : decode cX8_drought 5 = .ok (.ifCond .ne 6, 3) := by decide +kernel
theorem dX8_drought_8 : decode cX8_drought 8 = .ok (.bipush (-101), 2) := by decide +kernel
theorem dX8_drought_10 : decode cX8_drought 10 = .ok (.ireturn, 1) := by decide +kernel
theorem dX8_drought_11 : decode cX8_drought 11 = .ok (.aload_n 0, 1) := by decide +kernel
theorem dX8_drought_12 : decode cX8_drought 12 = .ok (.getfield 22, 3) := by decide +kernel
theorem dX8_drought_15 : decode cX8_drought 15 = .ok (.iload_n 1, 1) := by decide +kernel
theorem dX8_drought_16 : decode cX8_drought 16 = .ok (.iaload, 1) := by decide +kernel
theorem dX8_drought_17 : decode cX8_drought 17 = .ok (.istore_n 2, 1) := by decide +kernel
theorem dX8_drought_18 : decode cX8_drought 18 = .ok (.aload_n 0, 1) := by decide +kernel
theorem dX8_drought_19 : decode cX8_drought 19 = .ok (.getfield 22, 3) := by decide +kernel
theorem dX8_drought_22 : decode cX8_drought 22 = .ok (.iload_n 1, 1) := by decide +kernel
theorem dX8_drought_23 : decode cX8_drought 23 = .ok (.iconst 0, 1) := by decide +kernel
theorem dX8_drought_24 : decode cX8_drought 24 = .ok (.iastore, 1) := by decide +kernel
theorem dX8_drought_25 : decode cX8_drought 25 = .ok (.aload_n 0, 1) := by decide +kernel
theorem dX8_drought_26 : decode cX8_drought 26 = .ok (.iload_n 1, 1) := by decide +kernel
theorem dX8_drought_27 : decode cX8_drought 27 = .ok (.invokevirtual 124, 3) := by decide +kernel
theorem dX8_drought_30 : decode cX8_drought 30 = .ok (.iload_n 2, 1) := by decide +kernel
theorem dX8_drought_31 : decode cX8_drought 31 = .ok (.ireturn, 1) := by decide +kernel
theorem dX8_wideOf_0 : decode cX8_wideOf 0 = .ok (.aload_n 0, 1) := by decide +kernel
theorem dX8_wideOf_1 : decode cX8_wideOf 1 = .ok (.invokevirtual 132, 3) := by decide +kernel
theorem dX8_wideOf_4 : decode cX8_wideOf 4 = .ok (.iconst (-1), 1) := by decide +kernel
theorem dX8_wideOf_5 : decode cX8_wideOf 5 = .ok (.istore_n 3, 1) := by decide +kernel
theorem dX8_wideOf_6 : decode cX8_wideOf 6 = .ok (.iconst (-1), 1) := by decide +kernel
theorem dX8_wideOf_7 : decode cX8_wideOf 7 = .ok (.istore 4, 2) := by decide +kernel
theorem dX8_wideOf_9 : decode cX8_wideOf 9 = .ok (.iconst 1, 1) := by decide +kernel
theorem dX8_wideOf_10 : decode cX8_wideOf 10 = .ok (.istore 5, 2) := by decide +kernel
theorem dX8_wideOf_12 : decode cX8_wideOf 12 = .ok (.iload 5, 2) := by decide +kernel
theorem dX8_wideOf_14 : decode cX8_wideOf 14 = .ok (.iload_n 1, 1) := by decide +kernel
theorem dX8_wideOf_15 : decode cX8_wideOf 15 = .ok (.if_icmp .gt 47, 3) := by decide +kernel
theorem dX8_wideOf_18 : decode cX8_wideOf 18 = .ok (.aload_n 0, 1) := by decide +kernel
theorem dX8_wideOf_19 : decode cX8_wideOf 19 = .ok (.invokevirtual 135, 3) := by decide +kernel
theorem dX8_wideOf_22 : decode cX8_wideOf 22 = .ok (.aload_n 0, 1) := by decide +kernel
theorem dX8_wideOf_23 : decode cX8_wideOf 23 = .ok (.invokevirtual 171, 3) := by decide +kernel
theorem dX8_wideOf_26 : decode cX8_wideOf 26 = .ok (.istore 6, 2) := by decide +kernel
theorem dX8_wideOf_28 : decode cX8_wideOf 28 = .ok (.iload 6, 2) := by decide +kernel
theorem dX8_wideOf_30 : decode cX8_wideOf 30 = .ok (.iload_n 3, 1) := by decide +kernel
theorem dX8_wideOf_31 : decode cX8_wideOf 31 = .ok (.if_icmp .le 8, 3) := by decide +kernel
theorem dX8_wideOf_34 : decode cX8_wideOf 34 = .ok (.iload 5, 2) := by decide +kernel
theorem dX8_wideOf_36 : decode cX8_wideOf 36 = .ok (.goto 5, 3) := by decide +kernel
theorem dX8_wideOf_39 : decode cX8_wideOf 39 = .ok (.iload 4, 2) := by decide +kernel
theorem dX8_wideOf_41 : decode cX8_wideOf 41 = .ok (.istore 4, 2) := by decide +kernel
theorem dX8_wideOf_43 : decode cX8_wideOf 43 = .ok (.iload 6, 2) := by decide +kernel
theorem dX8_wideOf_45 : decode cX8_wideOf 45 = .ok (.iload_n 3, 1) := by decide +kernel
theorem dX8_wideOf_46 : decode cX8_wideOf 46 = .ok (.if_icmp .le 8, 3) := by decide +kernel
theorem dX8_wideOf_49 : decode cX8_wideOf 49 = .ok (.iload 6, 2) := by decide +kernel
theorem dX8_wideOf_51 : decode cX8_wideOf 51 = .ok (.goto 4, 3) := by decide +kernel
theorem dX8_wideOf_54 : decode cX8_wideOf 54 = .ok (.iload_n 3, 1) := by decide +kernel
theorem dX8_wideOf_55 : decode cX8_wideOf 55 = .ok (.istore_n 3, 1) := by decide +kernel
theorem dX8_wideOf_56 : decode cX8_wideOf 56 = .ok (.iinc 5 1, 3) := by decide +kernel
theorem dX8_wideOf_59 : decode cX8_wideOf 59 = .ok (.goto (-47), 3) := by decide +kernel
theorem dX8_wideOf_62 : decode cX8_wideOf 62 = .ok (.aload_n 0, 1) := by decide +kernel
theorem dX8_wideOf_63 : decode cX8_wideOf 63 = .ok (.invokevirtual 138, 3) := by decide +kernel
theorem dX8_wideOf_66 : decode cX8_wideOf 66 = .ok (.iload_n 2, 1) := by decide +kernel
theorem dX8_wideOf_67 : decode cX8_wideOf 67 = .ok (.ifCond .ne 7, 3) := by decide +kernel
theorem dX8_wideOf_70 : decode cX8_wideOf 70 = .ok (.iload_n 3, 1) := by decide +kernel
theorem dX8_wideOf_71 : decode cX8_wideOf 71 = .ok (.goto 5, 3) := by decide +kernel
theorem dX8_wideOf_74 : decode cX8_wideOf 74 = .ok (.iload 4, 2) := by decide +kernel
theorem dX8_wideOf_76 : decode cX8_wideOf 76 = .ok (.ireturn, 1) := by decide +kernel
theorem dX8_wide_0 : decode cX8_wide 0 = .ok (.iload_n 1, 1) := by decide +kernel
theorem dX8_wide_1 : decode cX8_wide 1 = .ok (.i2l, 1) := by decide +kernel
theorem dX8_wide_2 : decode cX8_wide 2 = .ok (.lconst 1, 1) := by decide +kernel
theorem dX8_wide_3 : decode cX8_wide 3 = .ok (.ldc2_w 174, 3) := by decide +kernel
theorem dX8_wide_6 : decode cX8_wide 6 = .ok (.invokestatic 67, 3) := by decide +kernel
theorem dX8_wide_9 : decode cX8_wide 9 = .ok (.ifCond .eq 13, 3) := by decide +kernel
theorem dX8_wide_12 : decode cX8_wide 12 = .ok (.iload_n 2, 1) := by decide +kernel
theorem dX8_wide_13 : decode cX8_wide 13 = .ok (.i2l, 1) := by decide +kernel
theorem dX8_wide_14 : decode cX8_wide 14 = .ok (.lconst 0, 1) := by decide +kernel
theorem dX8_wide_15 : decode cX8_wide 15 = .ok (.lconst 1, 1) := by decide +kernel
theorem dX8_wide_16 : decode cX8_wide 16 = .ok (.invokestatic 67, 3) := by decide +kernel
theorem dX8_wide_19 : decode cX8_wide 19 = .ok (.ifCond .ne 6, 3) := by decide +kernel
theorem dX8_wide_22 : decode cX8_wide 22 = .ok (.bipush (-102), 2) := by decide +kernel
theorem dX8_wide_24 : decode cX8_wide 24 = .ok (.ireturn, 1) := by decide +kernel
theorem dX8_wide_25 : decode cX8_wide 25 = .ok (.aload_n 0, 1) := by decide +kernel
theorem dX8_wide_26 : decode cX8_wide 26 = .ok (.invokevirtual 162, 3) := by decide +kernel
theorem dX8_wide_29 : decode cX8_wide 29 = .ok (.ifCond .eq 8, 3) := by decide +kernel
theorem dX8_wide_32 : decode cX8_wide 32 = .ok (.bipush (-103), 2) := by decide +kernel
theorem dX8_wide_34 : decode cX8_wide 34 = .ok (.goto 9, 3) := by decide +kernel
theorem dX8_wide_37 : decode cX8_wide 37 = .ok (.aload_n 0, 1) := by decide +kernel
theorem dX8_wide_38 : decode cX8_wide 38 = .ok (.iload_n 1, 1) := by decide +kernel
theorem dX8_wide_39 : decode cX8_wide 39 = .ok (.iload_n 2, 1) := by decide +kernel
theorem dX8_wide_40 : decode cX8_wide 40 = .ok (.invokevirtual 176, 3) := by decide +kernel
theorem dX8_wide_43 : decode cX8_wide 43 = .ok (.ireturn, 1) := by decide +kernel
theorem dX8_layStands_0 : decode cX8_layStands 0 = .ok (.iload_n 1, 1) := by decide +kernel
theorem dX8_layStands_1 : decode cX8_layStands 1 = .ok (.istore_n 2, 1) := by decide +kernel
theorem dX8_layStands_2 : decode cX8_layStands 2 = .ok (.iconst 0, 1) := by decide +kernel
theorem dX8_layStands_3 : decode cX8_layStands 3 = .ok (.istore_n 3, 1) := by decide +kernel
theorem dX8_layStands_4 : decode cX8_layStands 4 = .ok (.aload_n 0, 1) := by decide +kernel
theorem dX8_layStands_5 : decode cX8_layStands 5 = .ok (.getfield 99, 3) := by decide +kernel
theorem dX8_layStands_8 : decode cX8_layStands 8 = .ok (.iconst 1, 1) := by decide +kernel
theorem dX8_layStands_9 : decode cX8_layStands 9 = .ok (.isub, 1) := by decide +kernel
theorem dX8_layStands_10 : decode cX8_layStands 10 = .ok (.istore 4, 2) := by decide +kernel
theorem dX8_layStands_12 : decode cX8_layStands 12 = .ok (.iload 4, 2) := by decide +kernel
theorem dX8_layStands_14 : decode cX8_layStands 14 = .ok (.ifCond .lt 41, 3) := by decide +kernel
theorem dX8_layStands_17 : decode cX8_layStands 17 = .ok (.aload_n 0, 1) := by decide +kernel
theorem dX8_layStands_18 : decode cX8_layStands 18 = .ok (.getfield 25, 3) := by decide +kernel
theorem dX8_layStands_21 : decode cX8_layStands 21 = .ok (.iload 4, 2) := by decide +kernel
theorem dX8_layStands_23 : decode cX8_layStands 23 = .ok (.iload_n 2, 1) := by decide +kernel
theorem dX8_layStands_24 : decode cX8_layStands 24 = .ok (.aload_n 0, 1) := by decide +kernel
theorem dX8_layStands_25 : decode cX8_layStands 25 = .ok (.getfield 99, 3) := by decide +kernel
theorem dX8_layStands_28 : decode cX8_layStands 28 = .ok (.irem, 1) := by decide +kernel
theorem dX8_layStands_29 : decode cX8_layStands 29 = .ok (.iastore, 1) := by decide +kernel
theorem dX8_layStands_30 : decode cX8_layStands 30 = .ok (.iload_n 3, 1) := by decide +kernel
theorem dX8_layStands_31 : decode cX8_layStands 31 = .ok (.iconst 1, 1) := by decide +kernel
theorem dX8_layStands_32 : decode cX8_layStands 32 = .ok (.aload_n 0, 1) := by decide +kernel
theorem dX8_layStands_33 : decode cX8_layStands 33 = .ok (.getfield 25, 3) := by decide +kernel
theorem dX8_layStands_36 : decode cX8_layStands 36 = .ok (.iload 4, 2) := by decide +kernel
theorem dX8_layStands_38 : decode cX8_layStands 38 = .ok (.iaload, 1) := by decide +kernel
theorem dX8_layStands_39 : decode cX8_layStands 39 = .ok (.ishl, 1) := by decide +kernel
theorem dX8_layStands_40 : decode cX8_layStands 40 = .ok (.ior, 1) := by decide +kernel
theorem dX8_layStands_41 : decode cX8_layStands 41 = .ok (.istore_n 3, 1) := by decide +kernel
theorem dX8_layStands_42 : decode cX8_layStands 42 = .ok (.iload_n 2, 1) := by decide +kernel
theorem dX8_layStands_43 : decode cX8_layStands 43 = .ok (.aload_n 0, 1) := by decide +kernel
theorem dX8_layStands_44 : decode cX8_layStands 44 = .ok (.getfield 99, 3) := by decide +kernel
theorem dX8_layStands_47 : decode cX8_layStands 47 = .ok (.idiv, 1) := by decide +kernel
theorem dX8_layStands_48 : decode cX8_layStands 48 = .ok (.istore_n 2, 1) := by decide +kernel
theorem dX8_layStands_49 : decode cX8_layStands 49 = .ok (.iinc 4 (-1), 3) := by decide +kernel
theorem dX8_layStands_52 : decode cX8_layStands 52 = .ok (.goto (-40), 3) := by decide +kernel
theorem dX8_layStands_55 : decode cX8_layStands 55 = .ok (.iload_n 3, 1) := by decide +kernel
theorem dX8_layStands_56 : decode cX8_layStands 56 = .ok (.iconst 1, 1) := by decide +kernel
theorem dX8_layStands_57 : decode cX8_layStands 57 = .ok (.aload_n 0, 1) := by decide +kernel
theorem dX8_layStands_58 : decode cX8_layStands 58 = .ok (.getfield 99, 3) := by decide +kernel
theorem dX8_layStands_61 : decode cX8_layStands 61 = .ok (.ishl, 1) := by decide +kernel
theorem dX8_layStands_62 : decode cX8_layStands 62 = .ok (.iconst 1, 1) := by decide +kernel
theorem dX8_layStands_63 : decode cX8_layStands 63 = .ok (.isub, 1) := by decide +kernel
theorem dX8_layStands_64 : decode cX8_layStands 64 = .ok (.if_icmp .ne 7, 3) := by decide +kernel
theorem dX8_layStands_67 : decode cX8_layStands 67 = .ok (.iconst 1, 1) := by decide +kernel
theorem dX8_layStands_68 : decode cX8_layStands 68 = .ok (.goto 4, 3) := by decide +kernel
theorem dX8_layStands_71 : decode cX8_layStands 71 = .ok (.iconst 0, 1) := by decide +kernel
theorem dX8_layStands_72 : decode cX8_layStands 72 = .ok (.ireturn, 1) := by decide +kernel
theorem dX8_layBest_0 : decode cX8_layBest 0 = .ok (.iconst 1, 1) := by decide +kernel
theorem dX8_layBest_1 : decode cX8_layBest 1 = .ok (.istore_n 1, 1) := by decide +kernel
theorem dX8_layBest_2 : decode cX8_layBest 2 = .ok (.iconst 0, 1) := by decide +kernel
theorem dX8_layBest_3 : decode cX8_layBest 3 = .ok (.istore_n 2, 1) := by decide +kernel
theorem dX8_layBest_4 : decode cX8_layBest 4 = .ok (.iload_n 2, 1) := by decide +kernel
theorem dX8_layBest_5 : decode cX8_layBest 5 = .ok (.aload_n 0, 1) := by decide +kernel
theorem dX8_layBest_6 : decode cX8_layBest 6 = .ok (.getfield 99, 3) := by decide +kernel
theorem dX8_layBest_9 : decode cX8_layBest 9 = .ok (.if_icmp .ge 16, 3) := by decide +kernel
theorem dX8_layBest_12 : decode cX8_layBest 12 = .ok (.iload_n 1, 1) := by decide +kernel
theorem dX8_layBest_13 : decode cX8_layBest 13 = .ok (.aload_n 0, 1) := by decide +kernel
theorem dX8_layBest_14 : decode cX8_layBest 14 = .ok (.getfield 99, 3) := by decide +kernel
theorem dX8_layBest_17 : decode cX8_layBest 17 = .ok (.imul, 1) := by decide +kernel
theorem dX8_layBest_18 : decode cX8_layBest 18 = .ok (.istore_n 1, 1) := by decide +kernel
theorem dX8_layBest_19 : decode cX8_layBest 19 = .ok (.iinc 2 1, 3) := by decide +kernel
theorem dX8_layBest_22 : decode cX8_layBest 22 = .ok (.goto (-18), 3) := by decide +kernel
theorem dX8_layBest_25 : decode cX8_layBest 25 = .ok (.iconst (-1), 1) := by decide +kernel
theorem dX8_layBest_26 : decode cX8_layBest 26 = .ok (.istore_n 2, 1) := by decide +kernel
theorem dX8_layBest_27 : decode cX8_layBest 27 = .ok (.aload_n 0, 1) := by decide +kernel
theorem dX8_layBest_28 : decode cX8_layBest 28 = .ok (.invokevirtual 132, 3) := by decide +kernel
theorem dX8_layBest_31 : decode cX8_layBest 31 = .ok (.iconst 0, 1) := by decide +kernel
theorem dX8_layBest_32 : decode cX8_layBest 32 = .ok (.istore_n 3, 1) := by decide +kernel
theorem dX8_layBest_33 : decode cX8_layBest 33 = .ok (.iload_n 3, 1) := by decide +kernel
theorem dX8_layBest_34 : decode cX8_layBest 34 = .ok (.iload_n 1, 1) := by decide +kernel
theorem dX8_layBest_35 : decode cX8_layBest 35 = .ok (.if_icmp .ge 86, 3) := by decide +kernel
theorem dX8_layBest_38 : decode cX8_layBest 38 = .ok (.aload_n 0, 1) := by decide +kernel
theorem dX8_layBest_39 : decode cX8_layBest 39 = .ok (.iload_n 3, 1) := by decide +kernel
theorem dX8_layBest_40 : decode cX8_layBest 40 = .ok (.invokevirtual 179, 3) := by decide +kernel
theorem dX8_layBest_43 : decode cX8_layBest 43 = .ok (.ifCond .eq 72, 3) := by decide +kernel
theorem dX8_layBest_46 : decode cX8_layBest 46 = .ok (.iconst 0, 1) := by decide +kernel
theorem dX8_layBest_47 : decode cX8_layBest 47 = .ok (.istore 4, 2) := by decide +kernel
theorem dX8_layBest_49 : decode cX8_layBest 49 = .ok (.iload 4, 2) := by decide +kernel
theorem dX8_layBest_51 : decode cX8_layBest 51 = .ok (.bipush 10, 2) := by decide +kernel
theorem dX8_layBest_53 : decode cX8_layBest 53 = .ok (.if_icmp .ge 13, 3) := by decide +kernel
theorem dX8_layBest_56 : decode cX8_layBest 56 = .ok (.aload_n 0, 1) := by decide +kernel
theorem dX8_layBest_57 : decode cX8_layBest 57 = .ok (.invokevirtual 135, 3) := by decide +kernel
theorem dX8_layBest_60 : decode cX8_layBest 60 = .ok (.iinc 4 1, 3) := by decide +kernel
theorem dX8_layBest_63 : decode cX8_layBest 63 = .ok (.goto (-14), 3) := by decide +kernel
theorem dX8_layBest_66 : decode cX8_layBest 66 = .ok (.aload_n 0, 1) := by decide +kernel
theorem dX8_layBest_67 : decode cX8_layBest 67 = .ok (.invokevirtual 171, 3) := by decide +kernel
theorem dX8_layBest_70 : decode cX8_layBest 70 = .ok (.istore 4, 2) := by decide +kernel
theorem dX8_layBest_72 : decode cX8_layBest 72 = .ok (.aload_n 0, 1) := by decide +kernel
theorem dX8_layBest_73 : decode cX8_layBest 73 = .ok (.getfield 31, 3) := by decide +kernel
theorem dX8_layBest_76 : decode cX8_layBest 76 = .ok (.aload_n 0, 1) := by decide +kernel
theorem dX8_layBest_77 : decode cX8_layBest 77 = .ok (.getfield 22, 3) := by decide +kernel
theorem dX8_layBest_80 : decode cX8_layBest 80 = .ok (.invokestatic 128, 3) := by decide +kernel
theorem dX8_layBest_83 : decode cX8_layBest 83 = .ok (.iload_n 2, 1) := by decide +kernel
theorem dX8_layBest_84 : decode cX8_layBest 84 = .ok (.iconst (-1), 1) := by decide +kernel
theorem dX8_layBest_85 : decode cX8_layBest 85 = .ok (.if_icmp .eq 9, 3) := by decide +kernel
theorem dX8_layBest_88 : decode cX8_layBest 88 = .ok (.iload 4, 2) := by decide +kernel
theorem dX8_layBest_90 : decode cX8_layBest 90 = .ok (.iload_n 2, 1) := by decide +kernel
theorem dX8_layBest_91 : decode cX8_layBest 91 = .ok (.if_icmp .ge 24, 3) := by decide +kernel
theorem dX8_layBest_94 : decode cX8_layBest 94 = .ok (.iload 4, 2) := by decide +kernel
theorem dX8_layBest_96 : decode cX8_layBest 96 = .ok (.istore_n 2, 1) := by decide +kernel
theorem dX8_layBest_97 : decode cX8_layBest 97 = .ok (.aload_n 0, 1) := by decide +kernel
theorem dX8_layBest_98 : decode cX8_layBest 98 = .ok (.iload_n 3, 1) := by decide +kernel
theorem dX8_layBest_99 : decode cX8_layBest 99 = .ok (.invokevirtual 179, 3) := by decide +kernel
theorem dX8_layBest_102 : decode cX8_layBest 102 = .ok (.istore 5, 2) := by decide +kernel
theorem dX8_layBest_104 : decode cX8_layBest 104 = .ok (.aload_n 0, 1) := by decide +kernel
theorem dX8_layBest_105 : decode cX8_layBest 105 = .ok (.getfield 25, 3) := by decide +kernel
theorem dX8_layBest_108 : decode cX8_layBest 108 = .ok (.aload_n 0, 1) := by decide +kernel
theorem dX8_layBest_109 : decode cX8_layBest 109 = .ok (.getfield 37, 3) := by decide +kernel
theorem dX8_layBest_112 : decode cX8_layBest 112 = .ok (.invokestatic 128, 3) := by decide +kernel
theorem dX8_layBest_115 : decode cX8_layBest 115 = .ok (.iinc 3 1, 3) := by decide +kernel
theorem dX8_layBest_118 : decode cX8_layBest 118 = .ok (.goto (-85), 3) := by decide +kernel
theorem dX8_layBest_121 : decode cX8_layBest 121 = .ok (.aload_n 0, 1) := by decide +kernel
theorem dX8_layBest_122 : decode cX8_layBest 122 = .ok (.invokevirtual 138, 3) := by decide +kernel
theorem dX8_layBest_125 : decode cX8_layBest 125 = .ok (.iload_n 2, 1) := by decide +kernel
theorem dX8_layBest_126 : decode cX8_layBest 126 = .ok (.ireturn, 1) := by decide +kernel
theorem dX8_best_0 : decode cX8_best 0 = .ok (.iload_n 1, 1) := by decide +kernel
theorem dX8_best_1 : decode cX8_best 1 = .ok (.ifCond .eq 20, 3) := by decide +kernel
theorem dX8_best_4 : decode cX8_best 4 = .ok (.iload_n 1, 1) := by decide +kernel
theorem dX8_best_5 : decode cX8_best 5 = .ok (.i2l, 1) := by decide +kernel
theorem dX8_best_6 : decode cX8_best 6 = .ok (.ldc2_w 182, 3) := by decide +kernel
theorem dX8_best_9 : decode cX8_best 9 = .ok (.ldc2_w 184, 3) := by decide +kernel
theorem dX8_best_12 : decode cX8_best 12 = .ok (.invokestatic 67, 3) := by decide +kernel
theorem dX8_best_15 : decode cX8_best 15 = .ok (.ifCond .ne 6, 3) := by decide +kernel
theorem dX8_best_18 : decode cX8_best 18 = .ok (.bipush (-102), 2) := by decide +kernel
theorem dX8_best_20 : decode cX8_best 20 = .ok (.ireturn, 1) := by decide +kernel
theorem dX8_best_21 : decode cX8_best 21 = .ok (.aload_n 0, 1) := by decide +kernel
theorem dX8_best_22 : decode cX8_best 22 = .ok (.invokevirtual 162, 3) := by decide +kernel
theorem dX8_best_25 : decode cX8_best 25 = .ok (.ifCond .ne 12, 3) := by decide +kernel
theorem dX8_best_28 : decode cX8_best 28 = .ok (.aload_n 0, 1) := by decide +kernel
theorem dX8_best_29 : decode cX8_best 29 = .ok (.getfield 186, 3) := by decide +kernel
theorem dX8_best_32 : decode cX8_best 32 = .ok (.bipush 30, 2) := by decide +kernel
theorem dX8_best_34 : decode cX8_best 34 = .ok (.if_icmp .ne 6, 3) := by decide +kernel
theorem dX8_best_37 : decode cX8_best 37 = .ok (.bipush (-103), 2) := by decide +kernel
theorem dX8_best_39 : decode cX8_best 39 = .ok (.ireturn, 1) := by decide +kernel
theorem dX8_best_40 : decode cX8_best 40 = .ok (.aload_n 0, 1) := by decide +kernel
theorem dX8_best_41 : decode cX8_best 41 = .ok (.dup, 1) := by decide +kernel
theorem dX8_best_42 : decode cX8_best 42 = .ok (.getfield 186, 3) := by decide +kernel
theorem dX8_best_45 : decode cX8_best 45 = .ok (.iconst 1, 1) := by decide +kernel
theorem dX8_best_46 : decode cX8_best 46 = .ok (.iadd, 1) := by decide +kernel
theorem dX8_best_47 : decode cX8_best 47 = .ok (.putfield 186, 3) := by decide +kernel
theorem dX8_best_50 : decode cX8_best 50 = .ok (.aload_n 0, 1) := by decide +kernel
theorem dX8_best_51 : decode cX8_best 51 = .ok (.invokevirtual 189, 3) := by decide +kernel
theorem dX8_best_54 : decode cX8_best 54 = .ok (.istore_n 2, 1) := by decide +kernel
theorem dX8_best_55 : decode cX8_best 55 = .ok (.iload_n 1, 1) := by decide +kernel
theorem dX8_best_56 : decode cX8_best 56 = .ok (.ifCond .ne 7, 3) := by decide +kernel
theorem dX8_best_59 : decode cX8_best 59 = .ok (.iload_n 2, 1) := by decide +kernel
theorem dX8_best_60 : decode cX8_best 60 = .ok (.goto 27, 3) := by decide +kernel
theorem dX8_best_63 : decode cX8_best 63 = .ok (.iload_n 1, 1) := by decide +kernel
theorem dX8_best_64 : decode cX8_best 64 = .ok (.bipush 10, 2) := by decide +kernel
theorem dX8_best_66 : decode cX8_best 66 = .ok (.isub, 1) := by decide +kernel
theorem dX8_best_67 : decode cX8_best 67 = .ok (.aload_n 0, 1) := by decide +kernel
theorem dX8_best_68 : decode cX8_best 68 = .ok (.getfield 99, 3) := by decide +kernel
theorem dX8_best_71 : decode cX8_best 71 = .ok (.if_icmp .ge 15, 3) := by decide +kernel
theorem dX8_best_74 : decode cX8_best 74 = .ok (.aload_n 0, 1) := by decide +kernel
theorem dX8_best_75 : decode cX8_best 75 = .ok (.getfield 37, 3) := by decide +kernel
theorem dX8_best_78 : decode cX8_best 78 = .ok (.iload_n 1, 1) := by decide +kernel
theorem dX8_best_79 : decode cX8_best 79 = .ok (.bipush 10, 2) := by decide +kernel
theorem dX8_best_81 : decode cX8_best 81 = .ok (.isub, 1) := by decide +kernel
theorem dX8_best_82 : decode cX8_best 82 = .ok (.iaload, 1) := by decide +kernel
theorem dX8_best_83 : decode cX8_best 83 = .ok (.goto 4, 3) := by decide +kernel
theorem dX8_best_86 : decode cX8_best 86 = .ok (.iconst (-1), 1) := by decide +kernel
theorem dX8_best_87 : decode cX8_best 87 = .ok (.ireturn, 1) := by decide +kernel
theorem dX8_see_0 : decode cX8_see 0 = .ok (.iload_n 1, 1) := by decide +kernel
theorem dX8_see_1 : decode cX8_see 1 = .ok (.i2l, 1) := by decide +kernel
theorem dX8_see_2 : decode cX8_see 2 = .ok (.lconst 1, 1) := by decide +kernel
theorem dX8_see_3 : decode cX8_see 3 = .ok (.ldc2_w 192, 3) := by decide +kernel
theorem dX8_see_6 : decode cX8_see 6 = .ok (.invokestatic 67, 3) := by decide +kernel
theorem dX8_see_9 : decode cX8_see 9 = .ok (.ifCond .ne 6, 3) := by decide +kernel
theorem dX8_see_12 : decode cX8_see 12 = .ok (.bipush (-102), 2) := by decide +kernel
theorem dX8_see_14 : decode cX8_see 14 = .ok (.ireturn, 1) := by decide +kernel
theorem dX8_see_15 : decode cX8_see 15 = .ok (.aload_n 0, 1) := by decide +kernel
theorem dX8_see_16 : decode cX8_see 16 = .ok (.iload_n 2, 1) := by decide +kernel
theorem dX8_see_17 : decode cX8_see 17 = .ok (.invokevirtual 153, 3) := by decide +kernel
theorem dX8_see_20 : decode cX8_see 20 = .ok (.ifCond .ne 6, 3) := by decide +kernel
theorem dX8_see_23 : decode cX8_see 23 = .ok (.bipush (-101), 2) := by decide +kernel
theorem dX8_see_25 : decode cX8_see 25 = .ok (.ireturn, 1) := by decide +kernel
theorem dX8_see_26 : decode cX8_see 26 = .ok (.aload_n 0, 1) := by decide +kernel
theorem dX8_see_27 : decode cX8_see 27 = .ok (.getfield 108, 3) := by decide +kernel
theorem dX8_see_30 : decode cX8_see 30 = .ok (.bipush 6, 2) := by decide +kernel
theorem dX8_see_32 : decode cX8_see 32 = .ok (.if_icmp .ne 6, 3) := by decide +kernel
theorem dX8_see_35 : decode cX8_see 35 = .ok (.bipush (-104), 2) := by decide +kernel
theorem dX8_see_37 : decode cX8_see 37 = .ok (.ireturn, 1) := by decide +kernel
theorem dX8_see_38 : decode cX8_see 38 = .ok (.aload_n 0, 1) := by decide +kernel
theorem dX8_see_39 : decode cX8_see 39 = .ok (.getfield 40, 3) := by decide +kernel
theorem dX8_see_42 : decode cX8_see 42 = .ok (.iconst 3, 1) := by decide +kernel
theorem dX8_see_43 : decode cX8_see 43 = .ok (.aload_n 0, 1) := by decide +kernel
theorem dX8_see_44 : decode cX8_see 44 = .ok (.getfield 108, 3) := by decide +kernel
theorem dX8_see_47 : decode cX8_see 47 = .ok (.imul, 1) := by decide +kernel
theorem dX8_see_48 : decode cX8_see 48 = .ok (.iload_n 1, 1) := by decide +kernel
theorem dX8_see_49 : decode cX8_see 49 = .ok (.iastore, 1) := by decide +kernel
theorem dX8_see_50 : decode cX8_see 50 = .ok (.aload_n 0, 1) := by decide +kernel
theorem dX8_see_51 : decode cX8_see 51 = .ok (.getfield 40, 3) := by decide +kernel
theorem dX8_see_54 : decode cX8_see 54 = .ok (.iconst 3, 1) := by decide +kernel
theorem dX8_see_55 : decode cX8_see 55 = .ok (.aload_n 0, 1) := by decide +kernel
theorem dX8_see_56 : decode cX8_see 56 = .ok (.getfield 108, 3) := by decide +kernel
theorem dX8_see_59 : decode cX8_see 59 = .ok (.imul, 1) := by decide +kernel
theorem dX8_see_60 : decode cX8_see 60 = .ok (.iconst 1, 1) := by decide +kernel
theorem dX8_see_61 : decode cX8_see 61 = .ok (.iadd, 1) := by decide +kernel
theorem dX8_see_62 : decode cX8_see 62 = .ok (.iload_n 2, 1) := by decide +kernel
theorem dX8_see_63 : decode cX8_see 63 = .ok (.iastore, 1) := by decide +kernel
theorem dX8_see_64 : decode cX8_see 64 = .ok (.aload_n 0, 1) := by decide +kernel
theorem dX8_see_65 : decode cX8_see 65 = .ok (.getfield 40, 3) := by decide +kernel
theorem dX8_see_68 : decode cX8_see 68 = .ok (.iconst 3, 1) := by decide +kernel
theorem dX8_see_69 : decode cX8_see 69 = .ok (.aload_n 0, 1) := by decide +kernel
theorem dX8_see_70 : decode cX8_see 70 = .ok (.getfield 108, 3) := by decide +kernel
theorem dX8_see_73 : decode cX8_see 73 = .ok (.imul, 1) := by decide +kernel
theorem dX8_see_74 : decode cX8_see 74 = .ok (.iconst 2, 1) := by decide +kernel
theorem dX8_see_75 : decode cX8_see 75 = .ok (.iadd, 1) := by decide +kernel
theorem dX8_see_76 : decode cX8_see 76 = .ok (.iload_n 3, 1) := by decide +kernel
theorem dX8_see_77 : decode cX8_see 77 = .ok (.ifCond .eq 7, 3) := by decide +kernel
theorem dX8_see_80 : decode cX8_see 80 = .ok (.iconst 1, 1) := by decide +kernel
theorem dX8_see_81 : decode cX8_see 81 = .ok (.goto 4, 3) := by decide +kernel
theorem dX8_see_84 : decode cX8_see 84 = .ok (.iconst 0, 1) := by decide +kernel
theorem dX8_see_85 : decode cX8_see 85 = .ok (.iastore, 1) := by decide +kernel
theorem dX8_see_86 : decode cX8_see 86 = .ok (.aload_n 0, 1) := by decide +kernel
theorem dX8_see_87 : decode cX8_see 87 = .ok (.dup, 1) := by decide +kernel
theorem dX8_see_88 : decode cX8_see 88 = .ok (.getfield 108, 3) := by decide +kernel
theorem dX8_see_91 : decode cX8_see 91 = .ok (.iconst 1, 1) := by decide +kernel
theorem dX8_see_92 : decode cX8_see 92 = .ok (.iadd, 1) := by decide +kernel
theorem dX8_see_93 : decode cX8_see 93 = .ok (.putfield 108, 3) := by decide +kernel
theorem dX8_see_96 : decode cX8_see 96 = .ok (.aload_n 0, 1) := by decide +kernel
theorem dX8_see_97 : decode cX8_see 97 = .ok (.getfield 108, 3) := by decide +kernel
theorem dX8_see_100 : decode cX8_see 100 = .ok (.ireturn, 1) := by decide +kernel
theorem dX8_forget_0 : decode cX8_forget 0 = .ok (.aload_n 0, 1) := by decide +kernel
theorem dX8_forget_1 : decode cX8_forget 1 = .ok (.getfield 108, 3) := by decide +kernel
theorem dX8_forget_4 : decode cX8_forget 4 = .ok (.istore_n 1, 1) := by decide +kernel
theorem dX8_forget_5 : decode cX8_forget 5 = .ok (.aload_n 0, 1) := by decide +kernel
theorem dX8_forget_6 : decode cX8_forget 6 = .ok (.iconst 0, 1) := by decide +kernel
theorem dX8_forget_7 : decode cX8_forget 7 = .ok (.putfield 108, 3) := by decide +kernel
theorem dX8_forget_10 : decode cX8_forget 10 = .ok (.iload_n 1, 1) := by decide +kernel
theorem dX8_forget_11 : decode cX8_forget 11 = .ok (.ireturn, 1) := by decide +kernel
theorem dX8_layThen_0 : decode cX8_layThen 0 = .ok (.aload_n 0, 1) := by decide +kernel
theorem dX8_layThen_1 : decode cX8_layThen 1 = .ok (.invokevirtual 132, 3) := by decide +kernel
theorem dX8_layThen_4 : decode cX8_layThen 4 = .ok (.aload_n 0, 1) := by decide +kernel
theorem dX8_layThen_5 : decode cX8_layThen 5 = .ok (.getfield 22, 3) := by decide +kernel
theorem dX8_layThen_8 : decode cX8_layThen 8 = .ok (.iload_n 1, 1) := by decide +kernel
theorem dX8_layThen_9 : decode cX8_layThen 9 = .ok (.iload_n 2, 1) := by decide +kernel
theorem dX8_layThen_10 : decode cX8_layThen 10 = .ok (.iastore, 1) := by decide +kernel
theorem dX8_layThen_11 : decode cX8_layThen 11 = .ok (.iconst 1, 1) := by decide +kernel
theorem dX8_layThen_12 : decode cX8_layThen 12 = .ok (.istore_n 3, 1) := by decide +kernel
theorem dX8_layThen_13 : decode cX8_layThen 13 = .ok (.iload_n 3, 1) := by decide +kernel
theorem dX8_layThen_14 : decode cX8_layThen 14 = .ok (.bipush 13, 2) := by decide +kernel
theorem dX8_layThen_16 : decode cX8_layThen 16 = .ok (.if_icmp .ge 23, 3) := by decide +kernel
theorem dX8_layThen_19 : decode cX8_layThen 19 = .ok (.aload_n 0, 1) := by decide +kernel
theorem dX8_layThen_20 : decode cX8_layThen 20 = .ok (.invokevirtual 135, 3) := by decide +kernel
theorem dX8_layThen_23 : decode cX8_layThen 23 = .ok (.aload_n 0, 1) := by decide +kernel
theorem dX8_layThen_24 : decode cX8_layThen 24 = .ok (.getfield 43, 3) := by decide +kernel
theorem dX8_layThen_27 : decode cX8_layThen 27 = .ok (.iload_n 3, 1) := by decide +kernel
theorem dX8_layThen_28 : decode cX8_layThen 28 = .ok (.aload_n 0, 1) := by decide +kernel
theorem dX8_layThen_29 : decode cX8_layThen 29 = .ok (.getfield 121, 3) := by decide +kernel
theorem dX8_layThen_32 : decode cX8_layThen 32 = .ok (.iastore, 1) := by decide +kernel
theorem dX8_layThen_33 : decode cX8_layThen 33 = .ok (.iinc 3 1, 3) := by decide +kernel
theorem dX8_layThen_36 : decode cX8_layThen 36 = .ok (.goto (-23), 3) := by decide +kernel
theorem dX8_layThen_39 : decode cX8_layThen 39 = .ok (.aload_n 0, 1) := by decide +kernel
theorem dX8_layThen_40 : decode cX8_layThen 40 = .ok (.invokevirtual 138, 3) := by decide +kernel
theorem dX8_layThen_43 : decode cX8_layThen 43 = .ok (.return_, 1) := by decide +kernel
theorem dX8_muchOf_0 : decode cX8_muchOf 0 = .ok (.iconst 0, 1) := by decide +kernel
theorem dX8_muchOf_1 : decode cX8_muchOf 1 = .ok (.istore_n 2, 1) := by decide +kernel
theorem dX8_muchOf_2 : decode cX8_muchOf 2 = .ok (.iconst 0, 1) := by decide +kernel
theorem dX8_muchOf_3 : decode cX8_muchOf 3 = .ok (.istore_n 3, 1) := by decide +kernel
theorem dX8_muchOf_4 : decode cX8_muchOf 4 = .ok (.iload_n 3, 1) := by decide +kernel
theorem dX8_muchOf_5 : decode cX8_muchOf 5 = .ok (.bipush 10, 2) := by decide +kernel
theorem dX8_muchOf_7 : decode cX8_muchOf 7 = .ok (.if_icmp .ge 114, 3) := by decide +kernel
theorem dX8_muchOf_10 : decode cX8_muchOf 10 = .ok (.aload_n 0, 1) := by decide +kernel
theorem dX8_muchOf_11 : decode cX8_muchOf 11 = .ok (.iload_n 1, 1) := by decide +kernel
theorem dX8_muchOf_12 : decode cX8_muchOf 12 = .ok (.iload_n 3, 1) := by decide +kernel
theorem dX8_muchOf_13 : decode cX8_muchOf 13 = .ok (.invokevirtual 194, 3) := by decide +kernel
theorem dX8_muchOf_16 : decode cX8_muchOf 16 = .ok (.iconst 1, 1) := by decide +kernel
theorem dX8_muchOf_17 : decode cX8_muchOf 17 = .ok (.istore 4, 2) := by decide +kernel
theorem dX8_muchOf_19 : decode cX8_muchOf 19 = .ok (.iconst 0, 1) := by decide +kernel
theorem dX8_muchOf_20 : decode cX8_muchOf 20 = .ok (.istore 5, 2) := by decide +kernel
theorem dX8_muchOf_22 : decode cX8_muchOf 22 = .ok (.iload 5, 2) := by decide +kernel
theorem dX8_muchOf_24 : decode cX8_muchOf 24 = .ok (.aload_n 0, 1) := by decide +kernel
theorem dX8_muchOf_25 : decode cX8_muchOf 25 = .ok (.getfield 108, 3) := by decide +kernel
theorem dX8_muchOf_28 : decode cX8_muchOf 28 = .ok (.if_icmp .ge 72, 3) := by decide +kernel
theorem dX8_muchOf_31 : decode cX8_muchOf 31 = .ok (.aload_n 0, 1) := by decide +kernel
theorem dX8_muchOf_32 : decode cX8_muchOf 32 = .ok (.getfield 43, 3) := by decide +kernel
theorem dX8_muchOf_35 : decode cX8_muchOf 35 = .ok (.aload_n 0, 1) := by decide +kernel
theorem dX8_muchOf_36 : decode cX8_muchOf 36 = .ok (.getfield 40, 3) := by decide +kernel
theorem dX8_muchOf_39 : decode cX8_muchOf 39 = .ok (.iconst 3, 1) := by decide +kernel
theorem dX8_muchOf_40 : decode cX8_muchOf 40 = .ok (.iload 5, 2) := by decide +kernel
theorem dX8_muchOf_42 : decode cX8_muchOf 42 = .ok (.imul, 1) := by decide +kernel
theorem dX8_muchOf_43 : decode cX8_muchOf 43 = .ok (.iaload, 1) := by decide +kernel
theorem dX8_muchOf_44 : decode cX8_muchOf 44 = .ok (.iaload, 1) := by decide +kernel
theorem dX8_muchOf_45 : decode cX8_muchOf 45 = .ok (.aload_n 0, 1) := by decide +kernel
theorem dX8_muchOf_46 : decode cX8_muchOf 46 = .ok (.getfield 40, 3) := by decide +kernel
theorem dX8_muchOf_49 : decode cX8_muchOf 49 = .ok (.iconst 3, 1) := by decide +kernel
theorem dX8_muchOf_50 : decode cX8_muchOf 50 = .ok (.iload 5, 2) := by decide +kernel
theorem dX8_muchOf_52 : decode cX8_muchOf 52 = .ok (.imul, 1) := by decide +kernel
theorem dX8_muchOf_53 : decode cX8_muchOf 53 = .ok (.iconst 1, 1) := by decide +kernel
theorem dX8_muchOf_54 : decode cX8_muchOf 54 = .ok (.iadd, 1) := by decide +kernel
theorem dX8_muchOf_55 : decode cX8_muchOf 55 = .ok (.iaload, 1) := by decide +kernel
theorem dX8_muchOf_56 : decode cX8_muchOf 56 = .ok (.if_icmp .ne 7, 3) := by decide +kernel
theorem dX8_muchOf_59 : decode cX8_muchOf 59 = .ok (.iconst 1, 1) := by decide +kernel
theorem dX8_muchOf_60 : decode cX8_muchOf 60 = .ok (.goto 4, 3) := by decide +kernel
theorem dX8_muchOf_63 : decode cX8_muchOf 63 = .ok (.iconst 0, 1) := by decide +kernel
theorem dX8_muchOf_64 : decode cX8_muchOf 64 = .ok (.istore 6, 2) := by decide +kernel
theorem dX8_muchOf_66 : decode cX8_muchOf 66 = .ok (.iload 4, 2) := by decide +kernel
theorem dX8_muchOf_68 : decode cX8_muchOf 68 = .ok (.ifCond .eq 23, 3) := by decide +kernel
theorem dX8_muchOf_71 : decode cX8_muchOf 71 = .ok (.iload 6, 2) := by decide +kernel
theorem dX8_muchOf_73 : decode cX8_muchOf 73 = .ok (.aload_n 0, 1) := by decide +kernel
theorem dX8_muchOf_74 : decode cX8_muchOf 74 = .ok (.getfield 40, 3) := by decide +kernel
theorem dX8_muchOf_77 : decode cX8_muchOf 77 = .ok (.iconst 3, 1) := by decide +kernel
theorem dX8_muchOf_78 : decode cX8_muchOf 78 = .ok (.iload 5, 2) := by decide +kernel
theorem dX8_muchOf_80 : decode cX8_muchOf 80 = .ok (.imul, 1) := by decide +kernel
theorem dX8_muchOf_81 : decode cX8_muchOf 81 = .ok (.iconst 2, 1) := by decide +kernel
theorem dX8_muchOf_82 : decode cX8_muchOf 82 = .ok (.iadd, 1) := by decide +kernel
theorem dX8_muchOf_83 : decode cX8_muchOf 83 = .ok (.iaload, 1) := by decide +kernel
theorem dX8_muchOf_84 : decode cX8_muchOf 84 = .ok (.if_icmp .ne 7, 3) := by decide +kernel
theorem dX8_muchOf_87 : decode cX8_muchOf 87 = .ok (.iconst 1, 1) := by decide +kernel
theorem dX8_muchOf_88 : decode cX8_muchOf 88 = .ok (.goto 4, 3) := by decide +kernel
theorem dX8_muchOf_91 : decode cX8_muchOf 91 = .ok (.iconst 0, 1) := by decide +kernel
theorem dX8_muchOf_92 : decode cX8_muchOf 92 = .ok (.istore 4, 2) := by decide +kernel
theorem dX8_muchOf_94 : decode cX8_muchOf 94 = .ok (.iinc 5 1, 3) := by decide +kernel
theorem dX8_muchOf_97 : decode cX8_muchOf 97 = .ok (.goto (-75), 3) := by decide +kernel
theorem dX8_muchOf_100 : decode cX8_muchOf 100 = .ok (.iload_n 2, 1) := by decide +kernel
theorem dX8_muchOf_101 : decode cX8_muchOf 101 = .ok (.iload 4, 2) := by decide +kernel
theorem dX8_muchOf_103 : decode cX8_muchOf 103 = .ok (.ifCond .eq 9, 3) := by decide +kernel
theorem dX8_muchOf_106 : decode cX8_muchOf 106 = .ok (.iconst 1, 1) := by decide +kernel
theorem dX8_muchOf_107 : decode cX8_muchOf 107 = .ok (.iload_n 3, 1) := by decide +kernel
theorem dX8_muchOf_108 : decode cX8_muchOf 108 = .ok (.ishl, 1) := by decide +kernel
theorem dX8_muchOf_109 : decode cX8_muchOf 109 = .ok (.goto 4, 3) := by decide +kernel
theorem dX8_muchOf_112 : decode cX8_muchOf 112 = .ok (.iconst 0, 1) := by decide +kernel
theorem dX8_muchOf_113 : decode cX8_muchOf 113 = .ok (.ior, 1) := by decide +kernel
theorem dX8_muchOf_114 : decode cX8_muchOf 114 = .ok (.istore_n 2, 1) := by decide +kernel
theorem dX8_muchOf_115 : decode cX8_muchOf 115 = .ok (.iinc 3 1, 3) := by decide +kernel
theorem dX8_muchOf_118 : decode cX8_muchOf 118 = .ok (.goto (-114), 3) := by decide +kernel
theorem dX8_muchOf_121 : decode cX8_muchOf 121 = .ok (.iload_n 2, 1) := by decide +kernel
theorem dX8_muchOf_122 : decode cX8_muchOf 122 = .ok (.ireturn, 1) := by decide +kernel
theorem dX8_lookOf_0 : decode cX8_lookOf 0 = .ok (.aload_n 0, 1) := by decide +kernel
theorem dX8_lookOf_1 : decode cX8_lookOf 1 = .ok (.iload_n 1, 1) := by decide +kernel
theorem dX8_lookOf_2 : decode cX8_lookOf 2 = .ok (.invokevirtual 147, 3) := by decide +kernel
theorem dX8_lookOf_5 : decode cX8_lookOf 5 = .ok (.istore_n 2, 1) := by decide +kernel
theorem dX8_lookOf_6 : decode cX8_lookOf 6 = .ok (.iconst 0, 1) := by decide +kernel
theorem dX8_lookOf_7 : decode cX8_lookOf 7 = .ok (.istore_n 3, 1) := by decide +kernel
theorem dX8_lookOf_8 : decode cX8_lookOf 8 = .ok (.iconst 0, 1) := by decide +kernel
theorem dX8_lookOf_9 : decode cX8_lookOf 9 = .ok (.istore 4, 2) := by decide +kernel
theorem dX8_lookOf_11 : decode cX8_lookOf 11 = .ok (.iload 4, 2) := by decide +kernel
theorem dX8_lookOf_13 : decode cX8_lookOf 13 = .ok (.bipush 13, 2) := by decide +kernel
theorem dX8_lookOf_15 : decode cX8_lookOf 15 = .ok (.if_icmp .ge 17, 3) := by decide +kernel
theorem dX8_lookOf_18 : decode cX8_lookOf 18 = .ok (.aload_n 0, 1) := by decide +kernel
theorem dX8_lookOf_19 : decode cX8_lookOf 19 = .ok (.getfield 46, 3) := by decide +kernel
theorem dX8_lookOf_22 : decode cX8_lookOf 22 = .ok (.iload 4, 2) := by decide +kernel
theorem dX8_lookOf_24 : decode cX8_lookOf 24 = .ok (.iconst 0, 1) := by decide +kernel
theorem dX8_lookOf_25 : decode cX8_lookOf 25 = .ok (.iastore, 1) := by decide +kernel
theorem dX8_lookOf_26 : decode cX8_lookOf 26 = .ok (.iinc 4 1, 3) := by decide +kernel
theorem dX8_lookOf_29 : decode cX8_lookOf 29 = .ok (.goto (-18), 3) := by decide +kernel
theorem dX8_lookOf_32 : decode cX8_lookOf 32 = .ok (.iconst 0, 1) := by decide +kernel
theorem dX8_lookOf_33 : decode cX8_lookOf 33 = .ok (.istore 4, 2) := by decide +kernel
theorem dX8_lookOf_35 : decode cX8_lookOf 35 = .ok (.iload 4, 2) := by decide +kernel
theorem dX8_lookOf_37 : decode cX8_lookOf 37 = .ok (.bipush 10, 2) := by decide +kernel
theorem dX8_lookOf_39 : decode cX8_lookOf 39 = .ok (.if_icmp .ge 71, 3) := by decide +kernel
theorem dX8_lookOf_42 : decode cX8_lookOf 42 = .ok (.iload_n 2, 1) := by decide +kernel
theorem dX8_lookOf_43 : decode cX8_lookOf 43 = .ok (.iload 4, 2) := by decide +kernel
theorem dX8_lookOf_45 : decode cX8_lookOf 45 = .ok (.ishr, 1) := by decide +kernel
theorem dX8_lookOf_46 : decode cX8_lookOf 46 = .ok (.iconst 1, 1) := by decide +kernel
theorem dX8_lookOf_47 : decode cX8_lookOf 47 = .ok (.iand, 1) := by decide +kernel
theorem dX8_lookOf_48 : decode cX8_lookOf 48 = .ok (.iconst 1, 1) := by decide +kernel
theorem dX8_lookOf_49 : decode cX8_lookOf 49 = .ok (.if_icmp .ne 55, 3) := by decide +kernel
theorem dX8_lookOf_52 : decode cX8_lookOf 52 = .ok (.iinc 3 1, 3) := by decide +kernel
theorem dX8_lookOf_55 : decode cX8_lookOf 55 = .ok (.aload_n 0, 1) := by decide +kernel
theorem dX8_lookOf_56 : decode cX8_lookOf 56 = .ok (.iload_n 1, 1) := by decide +kernel
theorem dX8_lookOf_57 : decode cX8_lookOf 57 = .ok (.iload 4, 2) := by decide +kernel
theorem dX8_lookOf_59 : decode cX8_lookOf 59 = .ok (.invokevirtual 194, 3) := by decide +kernel
theorem dX8_lookOf_62 : decode cX8_lookOf 62 = .ok (.iconst 1, 1) := by decide +kernel
theorem dX8_lookOf_63 : decode cX8_lookOf 63 = .ok (.istore 5, 2) := by decide +kernel
theorem dX8_lookOf_65 : decode cX8_lookOf 65 = .ok (.iload 5, 2) := by decide +kernel
theorem dX8_lookOf_67 : decode cX8_lookOf 67 = .ok (.bipush 13, 2) := by decide +kernel
theorem dX8_lookOf_69 : decode cX8_lookOf 69 = .ok (.if_icmp .ge 35, 3) := by decide +kernel
theorem dX8_lookOf_72 : decode cX8_lookOf 72 = .ok (.aload_n 0, 1) := by decide +kernel
theorem dX8_lookOf_73 : decode cX8_lookOf 73 = .ok (.getfield 46, 3) := by decide +kernel
theorem dX8_lookOf_76 : decode cX8_lookOf 76 = .ok (.iload 5, 2) := by decide +kernel
theorem dX8_lookOf_78 : decode cX8_lookOf 78 = .ok (.dup2, 1) := by decide +kernel
theorem dX8_lookOf_79 : decode cX8_lookOf 79 = .ok (.iaload, 1) := by decide +kernel
theorem dX8_lookOf_80 : decode cX8_lookOf 80 = .ok (.aload_n 0, 1) := by decide +kernel
theorem dX8_lookOf_81 : decode cX8_lookOf 81 = .ok (.getfield 43, 3) := by decide +kernel
theorem dX8_lookOf_84 : decode cX8_lookOf 84 = .ok (.iload 5, 2) := by decide +kernel
theorem dX8_lookOf_86 : decode cX8_lookOf 86 = .ok (.iaload, 1) := by decide +kernel
theorem dX8_lookOf_87 : decode cX8_lookOf 87 = .ok (.iload_n 1, 1) := by decide +kernel
theorem dX8_lookOf_88 : decode cX8_lookOf 88 = .ok (.if_icmp .ne 7, 3) := by decide +kernel
theorem dX8_lookOf_91 : decode cX8_lookOf 91 = .ok (.iconst 1, 1) := by decide +kernel
theorem dX8_lookOf_92 : decode cX8_lookOf 92 = .ok (.goto 4, 3) := by decide +kernel
theorem dX8_lookOf_95 : decode cX8_lookOf 95 = .ok (.iconst 0, 1) := by decide +kernel
theorem dX8_lookOf_96 : decode cX8_lookOf 96 = .ok (.iadd, 1) := by decide +kernel
theorem dX8_lookOf_97 : decode cX8_lookOf 97 = .ok (.iastore, 1) := by decide +kernel
theorem dX8_lookOf_98 : decode cX8_lookOf 98 = .ok (.iinc 5 1, 3) := by decide +kernel
theorem dX8_lookOf_101 : decode cX8_lookOf 101 = .ok (.goto (-36), 3) := by decide +kernel
theorem dX8_lookOf_104 : decode cX8_lookOf 104 = .ok (.iinc 4 1, 3) := by decide +kernel
theorem dX8_lookOf_107 : decode cX8_lookOf 107 = .ok (.goto (-72), 3) := by decide +kernel
theorem dX8_lookOf_110 : decode cX8_lookOf 110 = .ok (.iconst (-1), 1) := by decide +kernel
theorem dX8_lookOf_111 : decode cX8_lookOf 111 = .ok (.istore 4, 2) := by decide +kernel
theorem dX8_lookOf_113 : decode cX8_lookOf 113 = .ok (.bipush 11, 2) := by decide +kernel
theorem dX8_lookOf_115 : decode cX8_lookOf 115 = .ok (.istore 5, 2) := by decide +kernel
theorem dX8_lookOf_117 : decode cX8_lookOf 117 = .ok (.iconst 1, 1) := by decide +kernel
theorem dX8_lookOf_118 : decode cX8_lookOf 118 = .ok (.istore 6, 2) := by decide +kernel
theorem dX8_lookOf_120 : decode cX8_lookOf 120 = .ok (.iload 6, 2) := by decide +kernel
theorem dX8_lookOf_122 : decode cX8_lookOf 122 = .ok (.bipush 13, 2) := by decide +kernel
theorem dX8_lookOf_124 : decode cX8_lookOf 124 = .ok (.if_icmp .ge 85, 3) := by decide +kernel
theorem dX8_lookOf_127 : decode cX8_lookOf 127 = .ok (.iload_n 3, 1) := by decide +kernel
theorem dX8_lookOf_128 : decode cX8_lookOf 128 = .ok (.ifCond .le 81, 3) := by decide +kernel
theorem dX8_lookOf_131 : decode cX8_lookOf 131 = .ok (.aload_n 0, 1) := by decide +kernel
theorem dX8_lookOf_132 : decode cX8_lookOf 132 = .ok (.getfield 46, 3) := by decide +kernel
theorem dX8_lookOf_135 : decode cX8_lookOf 135 = .ok (.iload 6, 2) := by decide +kernel
theorem dX8_lookOf_137 : decode cX8_lookOf 137 = .ok (.iaload, 1) := by decide +kernel
theorem dX8_lookOf_138 : decode cX8_lookOf 138 = .ok (.iload_n 3, 1) := by decide +kernel
theorem dX8_lookOf_139 : decode cX8_lookOf 139 = .ok (.aload_n 0, 1) := by decide +kernel
theorem dX8_lookOf_140 : decode cX8_lookOf 140 = .ok (.getfield 46, 3) := by decide +kernel
theorem dX8_lookOf_143 : decode cX8_lookOf 143 = .ok (.iload 6, 2) := by decide +kernel
theorem dX8_lookOf_145 : decode cX8_lookOf 145 = .ok (.iaload, 1) := by decide +kernel
theorem dX8_lookOf_146 : decode cX8_lookOf 146 = .ok (.isub, 1) := by decide +kernel
theorem dX8_lookOf_147 : decode cX8_lookOf 147 = .ok (.if_icmp .le 13, 3) := by decide +kernel
theorem dX8_lookOf_150 : decode cX8_lookOf 150 = .ok (.aload_n 0, 1) := by decide +kernel
theorem dX8_lookOf_151 : decode cX8_lookOf 151 = .ok (.getfield 46, 3) := by decide +kernel
theorem dX8_lookOf_154 : decode cX8_lookOf 154 = .ok (.iload 6, 2) := by decide +kernel
theorem dX8_lookOf_156 : decode cX8_lookOf 156 = .ok (.iaload, 1) := by decide +kernel
theorem dX8_lookOf_157 : decode cX8_lookOf 157 = .ok (.goto 12, 3) := by decide +kernel
theorem dX8_lookOf_160 : decode cX8_lookOf 160 = .ok (.iload_n 3, 1) := by decide +kernel
theorem dX8_lookOf_161 : decode cX8_lookOf 161 = .ok (.aload_n 0, 1) := by decide +kernel
theorem dX8_lookOf_162 : decode cX8_lookOf 162 = .ok (.getfield 46, 3) := by decide +kernel
theorem dX8_lookOf_165 : decode cX8_lookOf 165 = .ok (.iload 6, 2) := by decide +kernel
theorem dX8_lookOf_167 : decode cX8_lookOf 167 = .ok (.iaload, 1) := by decide +kernel
theorem dX8_lookOf_168 : decode cX8_lookOf 168 = .ok (.isub, 1) := by decide +kernel
theorem dX8_lookOf_169 : decode cX8_lookOf 169 = .ok (.istore 7, 2) := by decide +kernel
theorem dX8_lookOf_171 : decode cX8_lookOf 171 = .ok (.iload 7, 2) := by decide +kernel
theorem dX8_lookOf_173 : decode cX8_lookOf 173 = .ok (.iload 5, 2) := by decide +kernel
theorem dX8_lookOf_175 : decode cX8_lookOf 175 = .ok (.if_icmp .ge 8, 3) := by decide +kernel
theorem dX8_lookOf_178 : decode cX8_lookOf 178 = .ok (.iload 6, 2) := by decide +kernel
theorem dX8_lookOf_180 : decode cX8_lookOf 180 = .ok (.goto 5, 3) := by decide +kernel
theorem dX8_lookOf_183 : decode cX8_lookOf 183 = .ok (.iload 4, 2) := by decide +kernel
theorem dX8_lookOf_185 : decode cX8_lookOf 185 = .ok (.istore 4, 2) := by decide +kernel
theorem dX8_lookOf_187 : decode cX8_lookOf 187 = .ok (.iload 7, 2) := by decide +kernel
theorem dX8_lookOf_189 : decode cX8_lookOf 189 = .ok (.iload 5, 2) := by decide +kernel
theorem dX8_lookOf_191 : decode cX8_lookOf 191 = .ok (.if_icmp .ge 8, 3) := by decide +kernel
theorem dX8_lookOf_194 : decode cX8_lookOf 194 = .ok (.iload 7, 2) := by decide +kernel
theorem dX8_lookOf_196 : decode cX8_lookOf 196 = .ok (.goto 5, 3) := by decide +kernel
theorem dX8_lookOf_199 : decode cX8_lookOf 199 = .ok (.iload 5, 2) := by decide +kernel
theorem dX8_lookOf_201 : decode cX8_lookOf 201 = .ok (.istore 5, 2) := by decide +kernel
theorem dX8_lookOf_203 : decode cX8_lookOf 203 = .ok (.iinc 6 1, 3) := by decide +kernel
theorem dX8_lookOf_206 : decode cX8_lookOf 206 = .ok (.goto (-86), 3) := by decide +kernel
theorem dX8_lookOf_209 : decode cX8_lookOf 209 = .ok (.iload 4, 2) := by decide +kernel
theorem dX8_lookOf_211 : decode cX8_lookOf 211 = .ok (.ireturn, 1) := by decide +kernel
theorem dX8_draw_0 : decode cX8_draw 0 = .ok (.aload_n 0, 1) := by decide +kernel
theorem dX8_draw_1 : decode cX8_draw 1 = .ok (.ldc2_w 198, 3) := by decide +kernel
theorem dX8_draw_4 : decode cX8_draw 4 = .ok (.aload_n 0, 1) := by decide +kernel
theorem dX8_draw_5 : decode cX8_draw 5 = .ok (.getfield 200, 3) := by decide +kernel
theorem dX8_draw_8 : decode cX8_draw 8 = .ok (.i2l, 1) := by decide +kernel
theorem dX8_draw_9 : decode cX8_draw 9 = .ok (.lmul, 1) := by decide +kernel
theorem dX8_draw_10 : decode cX8_draw 10 = .ok (.ldc2_w 203, 3) := by decide +kernel
theorem dX8_draw_13 : decode cX8_draw 13 = .ok (.ladd, 1) := by decide +kernel
theorem dX8_draw_14 : decode cX8_draw 14 = .ok (.ldc2_w 205, 3) := by decide +kernel
theorem dX8_draw_17 : decode cX8_draw 17 = .ok (.land, 1) := by decide +kernel
theorem dX8_draw_18 : decode cX8_draw 18 = .ok (.l2i, 1) := by decide +kernel
theorem dX8_draw_19 : decode cX8_draw 19 = .ok (.putfield 200, 3) := by decide +kernel
theorem dX8_draw_22 : decode cX8_draw 22 = .ok (.aload_n 0, 1) := by decide +kernel
theorem dX8_draw_23 : decode cX8_draw 23 = .ok (.getfield 200, 3) := by decide +kernel
theorem dX8_draw_26 : decode cX8_draw 26 = .ok (.ldc 207, 2) := by decide +kernel
theorem dX8_draw_28 : decode cX8_draw 28 = .ok (.idiv, 1) := by decide +kernel
theorem dX8_draw_29 : decode cX8_draw 29 = .ok (.iload_n 1, 1) := by decide +kernel
theorem dX8_draw_30 : decode cX8_draw 30 = .ok (.irem, 1) := by decide +kernel
theorem dX8_draw_31 : decode cX8_draw 31 = .ok (.ireturn, 1) := by decide +kernel
theorem dX8_seasons_0 : decode cX8_seasons 0 = .ok (.iload_n 1, 1) := by decide +kernel
theorem dX8_seasons_1 : decode cX8_seasons 1 = .ok (.i2l, 1) := by decide +kernel
theorem dX8_seasons_2 : decode cX8_seasons 2 = .ok (.lconst 1, 1) := by decide +kernel
theorem dX8_seasons_3 : decode cX8_seasons 3 = .ok (.ldc2_w 174, 3) := by decide +kernel
theorem dX8_seasons_6 : decode cX8_seasons 6 = .ok (.invokestatic 67, 3) := by decide +kernel
theorem dX8_seasons_9 : decode cX8_seasons 9 = .ok (.ifCond .eq 19, 3) := by decide +kernel
theorem dX8_seasons_12 : decode cX8_seasons 12 = .ok (.iload_n 2, 1) := by decide +kernel
theorem dX8_seasons_13 : decode cX8_seasons 13 = .ok (.ifCond .lt 15, 3) := by decide +kernel
theorem dX8_seasons_16 : decode cX8_seasons 16 = .ok (.iload_n 3, 1) := by decide +kernel
theorem dX8_seasons_17 : decode cX8_seasons 17 = .ok (.i2l, 1) := by decide +kernel
theorem dX8_seasons_18 : decode cX8_seasons 18 = .ok (.lconst 0, 1) := by decide +kernel
theorem dX8_seasons_19 : decode cX8_seasons 19 = .ok (.ldc2_w 208, 3) := by decide +kernel
theorem dX8_seasons_22 : decode cX8_seasons 22 = .ok (.invokestatic 67, 3) := by decide +kernel
theorem dX8_seasons_25 : decode cX8_seasons 25 = .ok (.ifCond .ne 6, 3) := by decide +kernel
theorem dX8_seasons_28 : decode cX8_seasons 28 = .ok (.bipush (-102), 2) := by decide +kernel
theorem dX8_seasons_30 : decode cX8_seasons 30 = .ok (.ireturn, 1) := by decide +kernel
theorem dX8_seasons_31 : decode cX8_seasons 31 = .ok (.aload_n 0, 1) := by decide +kernel
theorem dX8_seasons_32 : decode cX8_seasons 32 = .ok (.invokevirtual 162, 3) := by decide +kernel
theorem dX8_seasons_35 : decode cX8_seasons 35 = .ok (.ifCond .eq 6, 3) := by decide +kernel
theorem dX8_seasons_38 : decode cX8_seasons 38 = .ok (.bipush (-103), 2) := by decide +kernel
theorem dX8_seasons_40 : decode cX8_seasons 40 = .ok (.ireturn, 1) := by decide +kernel
theorem dX8_seasons_41 : decode cX8_seasons 41 = .ok (.aload_n 0, 1) := by decide +kernel
theorem dX8_seasons_42 : decode cX8_seasons 42 = .ok (.invokevirtual 132, 3) := by decide +kernel
theorem dX8_seasons_45 : decode cX8_seasons 45 = .ok (.aload_n 0, 1) := by decide +kernel
theorem dX8_seasons_46 : decode cX8_seasons 46 = .ok (.iload_n 2, 1) := by decide +kernel
theorem dX8_seasons_47 : decode cX8_seasons 47 = .ok (.putfield 200, 3) := by decide +kernel
theorem dX8_seasons_50 : decode cX8_seasons 50 = .ok (.iconst 0, 1) := by decide +kernel
theorem dX8_seasons_51 : decode cX8_seasons 51 = .ok (.istore 4, 2) := by decide +kernel
theorem dX8_seasons_53 : decode cX8_seasons 53 = .ok (.iconst 0, 1) := by decide +kernel
theorem dX8_seasons_54 : decode cX8_seasons 54 = .ok (.istore 5, 2) := by decide +kernel
theorem dX8_seasons_56 : decode cX8_seasons 56 = .ok (.iload 5, 2) := by decide +kernel
theorem dX8_seasons_58 : decode cX8_seasons 58 = .ok (.iload_n 1, 1) := by decide +kernel
theorem dX8_seasons_59 : decode cX8_seasons 59 = .ok (.if_icmp .ge 45, 3) := by decide +kernel
theorem dX8_seasons_62 : decode cX8_seasons 62 = .ok (.aload_n 0, 1) := by decide +kernel
theorem dX8_seasons_63 : decode cX8_seasons 63 = .ok (.iconst 4, 1) := by decide +kernel
theorem dX8_seasons_64 : decode cX8_seasons 64 = .ok (.invokevirtual 210, 3) := by decide +kernel
theorem dX8_seasons_67 : decode cX8_seasons 67 = .ok (.istore 6, 2) := by decide +kernel
theorem dX8_seasons_69 : decode cX8_seasons 69 = .ok (.aload_n 0, 1) := by decide +kernel
theorem dX8_seasons_70 : decode cX8_seasons 70 = .ok (.aload_n 0, 1) := by decide +kernel
theorem dX8_seasons_71 : decode cX8_seasons 71 = .ok (.aload_n 0, 1) := by decide +kernel
theorem dX8_seasons_72 : decode cX8_seasons 72 = .ok (.getfield 99, 3) := by decide +kernel
theorem dX8_seasons_75 : decode cX8_seasons 75 = .ok (.invokevirtual 210, 3) := by decide +kernel
theorem dX8_seasons_78 : decode cX8_seasons 78 = .ok (.iload 6, 2) := by decide +kernel
theorem dX8_seasons_80 : decode cX8_seasons 80 = .ok (.invokevirtual 168, 3) := by decide +kernel
theorem dX8_seasons_83 : decode cX8_seasons 83 = .ok (.istore 7, 2) := by decide +kernel
theorem dX8_seasons_85 : decode cX8_seasons 85 = .ok (.aload_n 0, 1) := by decide +kernel
theorem dX8_seasons_86 : decode cX8_seasons 86 = .ok (.invokevirtual 135, 3) := by decide +kernel
theorem dX8_seasons_89 : decode cX8_seasons 89 = .ok (.iload 4, 2) := by decide +kernel
theorem dX8_seasons_91 : decode cX8_seasons 91 = .ok (.aload_n 0, 1) := by decide +kernel
theorem dX8_seasons_92 : decode cX8_seasons 92 = .ok (.getfield 118, 3) := by decide +kernel
theorem dX8_seasons_95 : decode cX8_seasons 95 = .ok (.iadd, 1) := by decide +kernel
theorem dX8_seasons_96 : decode cX8_seasons 96 = .ok (.istore 4, 2) := by decide +kernel
theorem dX8_seasons_98 : decode cX8_seasons 98 = .ok (.iinc 5 1, 3) := by decide +kernel
theorem dX8_seasons_101 : decode cX8_seasons 101 = .ok (.goto (-45), 3) := by decide +kernel
theorem dX8_seasons_104 : decode cX8_seasons 104 = .ok (.aload_n 0, 1) := by decide +kernel
theorem dX8_seasons_105 : decode cX8_seasons 105 = .ok (.invokevirtual 171, 3) := by decide +kernel
theorem dX8_seasons_108 : decode cX8_seasons 108 = .ok (.istore 5, 2) := by decide +kernel
theorem dX8_seasons_110 : decode cX8_seasons 110 = .ok (.aload_n 0, 1) := by decide +kernel
theorem dX8_seasons_111 : decode cX8_seasons 111 = .ok (.invokevirtual 138, 3) := by decide +kernel
theorem dX8_seasons_114 : decode cX8_seasons 114 = .ok (.iload_n 3, 1) := by decide +kernel
theorem dX8_seasons_115 : decode cX8_seasons 115 = .ok (.ifCond .ne 8, 3) := by decide +kernel
theorem dX8_seasons_118 : decode cX8_seasons 118 = .ok (.iload 4, 2) := by decide +kernel
theorem dX8_seasons_120 : decode cX8_seasons 120 = .ok (.goto 17, 3) := by decide +kernel
theorem dX8_seasons_123 : decode cX8_seasons 123 = .ok (.iload_n 3, 1) := by decide +kernel
theorem dX8_seasons_124 : decode cX8_seasons 124 = .ok (.iconst 1, 1) := by decide +kernel
theorem dX8_seasons_125 : decode cX8_seasons 125 = .ok (.if_icmp .ne 8, 3) := by decide +kernel
theorem dX8_seasons_128 : decode cX8_seasons 128 = .ok (.iload 5, 2) := by decide +kernel
theorem dX8_seasons_130 : decode cX8_seasons 130 = .ok (.goto 7, 3) := by decide +kernel
theorem dX8_seasons_133 : decode cX8_seasons 133 = .ok (.aload_n 0, 1) := by decide +kernel
theorem dX8_seasons_134 : decode cX8_seasons 134 = .ok (.getfield 200, 3) := by decide +kernel
theorem dX8_seasons_137 : decode cX8_seasons 137 = .ok (.ireturn, 1) := by decide +kernel
theorem dX8_image_0 : decode cX8_image 0 = .ok (.aload_n 0, 1) := by decide +kernel
theorem dX8_image_1 : decode cX8_image 1 = .ok (.invokevirtual 162, 3) := by decide +kernel
theorem dX8_image_4 : decode cX8_image 4 = .ok (.ifCond .eq 6, 3) := by decide +kernel
theorem dX8_image_7 : decode cX8_image 7 = .ok (.bipush (-103), 2) := by decide +kernel
theorem dX8_image_9 : decode cX8_image 9 = .ok (.ireturn, 1) := by decide +kernel
theorem dX8_image_10 : decode cX8_image 10 = .ok (.aload_n 0, 1) := by decide +kernel
theorem dX8_image_11 : decode cX8_image 11 = .ok (.getfield 22, 3) := by decide +kernel
theorem dX8_image_14 : decode cX8_image 14 = .ok (.aload_n 0, 1) := by decide +kernel
theorem dX8_image_15 : decode cX8_image 15 = .ok (.getfield 49, 3) := by decide +kernel
theorem dX8_image_18 : decode cX8_image 18 = .ok (.invokestatic 128, 3) := by decide +kernel
theorem dX8_image_21 : decode cX8_image 21 = .ok (.aload_n 0, 1) := by decide +kernel
theorem dX8_image_22 : decode cX8_image 22 = .ok (.getfield 25, 3) := by decide +kernel
theorem dX8_image_25 : decode cX8_image 25 = .ok (.aload_n 0, 1) := by decide +kernel
theorem dX8_image_26 : decode cX8_image 26 = .ok (.getfield 52, 3) := by decide +kernel
theorem dX8_image_29 : decode cX8_image 29 = .ok (.invokestatic 128, 3) := by decide +kernel
theorem dX8_image_32 : decode cX8_image 32 = .ok (.aload_n 0, 1) := by decide +kernel
theorem dX8_image_33 : decode cX8_image 33 = .ok (.getfield 28, 3) := by decide +kernel
theorem dX8_image_36 : decode cX8_image 36 = .ok (.aload_n 0, 1) := by decide +kernel
theorem dX8_image_37 : decode cX8_image 37 = .ok (.getfield 55, 3) := by decide +kernel
theorem dX8_image_40 : decode cX8_image 40 = .ok (.invokestatic 128, 3) := by decide +kernel
theorem dX8_image_43 : decode cX8_image 43 = .ok (.aload_n 0, 1) := by decide +kernel
theorem dX8_image_44 : decode cX8_image 44 = .ok (.getfield 40, 3) := by decide +kernel
theorem dX8_image_47 : decode cX8_image 47 = .ok (.aload_n 0, 1) := by decide +kernel
theorem dX8_image_48 : decode cX8_image 48 = .ok (.getfield 58, 3) := by decide +kernel
theorem dX8_image_51 : decode cX8_image 51 = .ok (.invokestatic 128, 3) := by decide +kernel
theorem dX8_image_54 : decode cX8_image 54 = .ok (.aload_n 0, 1) := by decide +kernel
theorem dX8_image_55 : decode cX8_image 55 = .ok (.aload_n 0, 1) := by decide +kernel
theorem dX8_image_56 : decode cX8_image 56 = .ok (.getfield 105, 3) := by decide +kernel
theorem dX8_image_59 : decode cX8_image 59 = .ok (.putfield 213, 3) := by decide +kernel
theorem dX8_image_62 : decode cX8_image 62 = .ok (.aload_n 0, 1) := by decide +kernel
theorem dX8_image_63 : decode cX8_image 63 = .ok (.aload_n 0, 1) := by decide +kernel
theorem dX8_image_64 : decode cX8_image 64 = .ok (.getfield 108, 3) := by decide +kernel
theorem dX8_image_67 : decode cX8_image 67 = .ok (.putfield 216, 3) := by decide +kernel
theorem dX8_image_70 : decode cX8_image 70 = .ok (.aload_n 0, 1) := by decide +kernel
theorem dX8_image_71 : decode cX8_image 71 = .ok (.aload_n 0, 1) := by decide +kernel
theorem dX8_image_72 : decode cX8_image 72 = .ok (.getfield 111, 3) := by decide +kernel
theorem dX8_image_75 : decode cX8_image 75 = .ok (.putfield 61, 3) := by decide +kernel
theorem dX8_image_78 : decode cX8_image 78 = .ok (.aload_n 0, 1) := by decide +kernel
theorem dX8_image_79 : decode cX8_image 79 = .ok (.getfield 105, 3) := by decide +kernel
theorem dX8_image_82 : decode cX8_image 82 = .ok (.ireturn, 1) := by decide +kernel
theorem dX8_restore_0 : decode cX8_restore 0 = .ok (.aload_n 0, 1) := by decide +kernel
theorem dX8_restore_1 : decode cX8_restore 1 = .ok (.getfield 61, 3) := by decide +kernel
theorem dX8_restore_4 : decode cX8_restore 4 = .ok (.aload_n 0, 1) := by decide +kernel
theorem dX8_restore_5 : decode cX8_restore 5 = .ok (.getfield 111, 3) := by decide +kernel
theorem dX8_restore_8 : decode cX8_restore 8 = .ok (.if_icmp .eq 6, 3) := by decide +kernel
theorem dX8_restore_11 : decode cX8_restore 11 = .ok (.bipush (-103), 2) := by decide +kernel
theorem dX8_restore_13 : decode cX8_restore 13 = .ok (.ireturn, 1) := by decide +kernel
theorem dX8_restore_14 : decode cX8_restore 14 = .ok (.aload_n 0, 1) := by decide +kernel
theorem dX8_restore_15 : decode cX8_restore 15 = .ok (.getfield 49, 3) := by decide +kernel
theorem dX8_restore_18 : decode cX8_restore 18 = .ok (.aload_n 0, 1) := by decide +kernel
theorem dX8_restore_19 : decode cX8_restore 19 = .ok (.getfield 22, 3) := by decide +kernel
theorem dX8_restore_22 : decode cX8_restore 22 = .ok (.invokestatic 128, 3) := by decide +kernel
theorem dX8_restore_25 : decode cX8_restore 25 = .ok (.aload_n 0, 1) := by decide +kernel
theorem dX8_restore_26 : decode cX8_restore 26 = .ok (.getfield 52, 3) := by decide +kernel
theorem dX8_restore_29 : decode cX8_restore 29 = .ok (.aload_n 0, 1) := by decide +kernel
theorem dX8_restore_30 : decode cX8_restore 30 = .ok (.getfield 25, 3) := by decide +kernel
theorem dX8_restore_33 : decode cX8_restore 33 = .ok (.invokestatic 128, 3) := by decide +kernel
theorem dX8_restore_36 : decode cX8_restore 36 = .ok (.aload_n 0, 1) := by decide +kernel
theorem dX8_restore_37 : decode cX8_restore 37 = .ok (.getfield 55, 3) := by decide +kernel
theorem dX8_restore_40 : decode cX8_restore 40 = .ok (.aload_n 0, 1) := by decide +kernel
theorem dX8_restore_41 : decode cX8_restore 41 = .ok (.getfield 28, 3) := by decide +kernel
theorem dX8_restore_44 : decode cX8_restore 44 = .ok (.invokestatic 128, 3) := by decide +kernel
theorem dX8_restore_47 : decode cX8_restore 47 = .ok (.aload_n 0, 1) := by decide +kernel
theorem dX8_restore_48 : decode cX8_restore 48 = .ok (.getfield 58, 3) := by decide +kernel
theorem dX8_restore_51 : decode cX8_restore 51 = .ok (.aload_n 0, 1) := by decide +kernel
theorem dX8_restore_52 : decode cX8_restore 52 = .ok (.getfield 40, 3) := by decide +kernel
theorem dX8_restore_55 : decode cX8_restore 55 = .ok (.invokestatic 128, 3) := by decide +kernel
theorem dX8_restore_58 : decode cX8_restore 58 = .ok (.aload_n 0, 1) := by decide +kernel
theorem dX8_restore_59 : decode cX8_restore 59 = .ok (.aload_n 0, 1) := by decide +kernel
theorem dX8_restore_60 : decode cX8_restore 60 = .ok (.getfield 213, 3) := by decide +kernel
theorem dX8_restore_63 : decode cX8_restore 63 = .ok (.putfield 105, 3) := by decide +kernel
theorem dX8_restore_66 : decode cX8_restore 66 = .ok (.aload_n 0, 1) := by decide +kernel
theorem dX8_restore_67 : decode cX8_restore 67 = .ok (.aload_n 0, 1) := by decide +kernel
theorem dX8_restore_68 : decode cX8_restore 68 = .ok (.getfield 216, 3) := by decide +kernel
theorem dX8_restore_71 : decode cX8_restore 71 = .ok (.putfield 108, 3) := by decide +kernel
theorem dX8_restore_74 : decode cX8_restore 74 = .ok (.aload_n 0, 1) := by decide +kernel
theorem dX8_restore_75 : decode cX8_restore 75 = .ok (.getfield 105, 3) := by decide +kernel
theorem dX8_restore_78 : decode cX8_restore 78 = .ok (.ireturn, 1) := by decide +kernel
theorem dX8_takenAll_0 : decode cX8_takenAll 0 = .ok (.iconst 0, 1) := by decide +kernel
theorem dX8_takenAll_1 : decode cX8_takenAll 1 = .ok (.istore_n 1, 1) := by decide +kernel
theorem dX8_takenAll_2 : decode cX8_takenAll 2 = .ok (.iconst 0, 1) := by decide +kernel
theorem dX8_takenAll_3 : decode cX8_takenAll 3 = .ok (.istore_n 2, 1) := by decide +kernel
theorem dX8_takenAll_4 : decode cX8_takenAll 4 = .ok (.iload_n 2, 1) := by decide +kernel
theorem dX8_takenAll_5 : decode cX8_takenAll 5 = .ok (.aload_n 0, 1) := by decide +kernel
theorem dX8_takenAll_6 : decode cX8_takenAll 6 = .ok (.getfield 99, 3) := by decide +kernel
theorem dX8_takenAll_9 : decode cX8_takenAll 9 = .ok (.if_icmp .ge 18, 3) := by decide +kernel
theorem dX8_takenAll_12 : decode cX8_takenAll 12 = .ok (.iload_n 1, 1) := by decide +kernel
theorem dX8_takenAll_13 : decode cX8_takenAll 13 = .ok (.aload_n 0, 1) := by decide +kernel
theorem dX8_takenAll_14 : decode cX8_takenAll 14 = .ok (.getfield 28, 3) := by decide +kernel
theorem dX8_takenAll_17 : decode cX8_takenAll 17 = .ok (.iload_n 2, 1) := by decide +kernel
theorem dX8_takenAll_18 : decode cX8_takenAll 18 = .ok (.iaload, 1) := by decide +kernel
theorem dX8_takenAll_19 : decode cX8_takenAll 19 = .ok (.iadd, 1) := by decide +kernel
theorem dX8_takenAll_20 : decode cX8_takenAll 20 = .ok (.istore_n 1, 1) := by decide +kernel
theorem dX8_takenAll_21 : decode cX8_takenAll 21 = .ok (.iinc 2 1, 3) := by decide +kernel
theorem dX8_takenAll_24 : decode cX8_takenAll 24 = .ok (.goto (-20), 3) := by decide +kernel
theorem dX8_takenAll_27 : decode cX8_takenAll 27 = .ok (.iload_n 1, 1) := by decide +kernel
theorem dX8_takenAll_28 : decode cX8_takenAll 28 = .ok (.ireturn, 1) := by decide +kernel
theorem dX8_countOf_0 : decode cX8_countOf 0 = .ok (.iload_n 1, 1) := by decide +kernel
theorem dX8_countOf_1 : decode cX8_countOf 1 = .ok (.tableswitch 96 0 8 #[51, 56, 61, 66, 71, 76, 81, 86, 91], 51) := by decide +kernel
theorem dX8_countOf_52 : decode cX8_countOf 52 = .ok (.aload_n 0, 1) := by decide +kernel
theorem dX8_countOf_53 : decode cX8_countOf 53 = .ok (.getfield 99, 3) := by decide +kernel
theorem dX8_countOf_56 : decode cX8_countOf 56 = .ok (.ireturn, 1) := by decide +kernel
theorem dX8_countOf_57 : decode cX8_countOf 57 = .ok (.aload_n 0, 1) := by decide +kernel
theorem dX8_countOf_58 : decode cX8_countOf 58 = .ok (.getfield 102, 3) := by decide +kernel
theorem dX8_countOf_61 : decode cX8_countOf 61 = .ok (.ireturn, 1) := by decide +kernel
theorem dX8_countOf_62 : decode cX8_countOf 62 = .ok (.aload_n 0, 1) := by decide +kernel
theorem dX8_countOf_63 : decode cX8_countOf 63 = .ok (.invokevirtual 171, 3) := by decide +kernel
theorem dX8_countOf_66 : decode cX8_countOf 66 = .ok (.ireturn, 1) := by decide +kernel
theorem dX8_countOf_67 : decode cX8_countOf 67 = .ok (.aload_n 0, 1) := by decide +kernel
theorem dX8_countOf_68 : decode cX8_countOf 68 = .ok (.getfield 105, 3) := by decide +kernel
theorem dX8_countOf_71 : decode cX8_countOf 71 = .ok (.ireturn, 1) := by decide +kernel
theorem dX8_countOf_72 : decode cX8_countOf 72 = .ok (.aload_n 0, 1) := by decide +kernel
theorem dX8_countOf_73 : decode cX8_countOf 73 = .ok (.invokevirtual 219, 3) := by decide +kernel
theorem dX8_countOf_76 : decode cX8_countOf 76 = .ok (.ireturn, 1) := by decide +kernel
theorem dX8_countOf_77 : decode cX8_countOf 77 = .ok (.aload_n 0, 1) := by decide +kernel
theorem dX8_countOf_78 : decode cX8_countOf 78 = .ok (.getfield 108, 3) := by decide +kernel
theorem dX8_countOf_81 : decode cX8_countOf 81 = .ok (.ireturn, 1) := by decide +kernel
theorem dX8_countOf_82 : decode cX8_countOf 82 = .ok (.aload_n 0, 1) := by decide +kernel
theorem dX8_countOf_83 : decode cX8_countOf 83 = .ok (.getfield 71, 3) := by decide +kernel
theorem dX8_countOf_86 : decode cX8_countOf 86 = .ok (.ireturn, 1) := by decide +kernel
theorem dX8_countOf_87 : decode cX8_countOf 87 = .ok (.aload_n 0, 1) := by decide +kernel
theorem dX8_countOf_88 : decode cX8_countOf 88 = .ok (.getfield 111, 3) := by decide +kernel
theorem dX8_countOf_91 : decode cX8_countOf 91 = .ok (.ireturn, 1) := by decide +kernel
theorem dX8_countOf_92 : decode cX8_countOf 92 = .ok (.aload_n 0, 1) := by decide +kernel
theorem dX8_countOf_93 : decode cX8_countOf 93 = .ok (.getfield 186, 3) := by decide +kernel
theorem dX8_countOf_96 : decode cX8_countOf 96 = .ok (.ireturn, 1) := by decide +kernel
theorem dX8_countOf_97 : decode cX8_countOf 97 = .ok (.bipush (-102), 2) := by decide +kernel
theorem dX8_countOf_99 : decode cX8_countOf 99 = .ok (.ireturn, 1) := by decide +kernel
theorem dX8_count_0 : decode cX8_count 0 = .ok (.aload_n 0, 1) := by decide +kernel
theorem dX8_count_1 : decode cX8_count 1 = .ok (.iload_n 1, 1) := by decide +kernel
theorem dX8_count_2 : decode cX8_count 2 = .ok (.invokevirtual 222, 3) := by decide +kernel
theorem dX8_count_5 : decode cX8_count 5 = .ok (.ireturn, 1) := by decide +kernel
theorem dX8_say_0 : decode cX8_say 0 = .ok (.aload_n 0, 1) := by decide +kernel
theorem dX8_say_1 : decode cX8_say 1 = .ok (.ldc2_w 225, 3) := by decide +kernel
theorem dX8_say_4 : decode cX8_say 4 = .ok (.aload_n 0, 1) := by decide +kernel
theorem dX8_say_5 : decode cX8_say 5 = .ok (.getfield 227, 3) := by decide +kernel
theorem dX8_say_8 : decode cX8_say 8 = .ok (.lmul, 1) := by decide +kernel
theorem dX8_say_9 : decode cX8_say 9 = .ok (.lload_n 1, 1) := by decide +kernel
theorem dX8_say_10 : decode cX8_say 10 = .ok (.ladd, 1) := by decide +kernel
theorem dX8_say_11 : decode cX8_say 11 = .ok (.putfield 227, 3) := by decide +kernel
theorem dX8_say_14 : decode cX8_say 14 = .ok (.return_, 1) := by decide +kernel
theorem dX8_digest_0 : decode cX8_digest 0 = .ok (.aload_n 0, 1) := by decide +kernel
theorem dX8_digest_1 : decode cX8_digest 1 = .ok (.ldc2_w 231, 3) := by decide +kernel
theorem dX8_digest_4 : decode cX8_digest 4 = .ok (.putfield 227, 3) := by decide +kernel
theorem dX8_digest_7 : decode cX8_digest 7 = .ok (.iconst 0, 1) := by decide +kernel
theorem dX8_digest_8 : decode cX8_digest 8 = .ok (.istore_n 1, 1) := by decide +kernel
theorem dX8_digest_9 : decode cX8_digest 9 = .ok (.iload_n 1, 1) := by decide +kernel
theorem dX8_digest_10 : decode cX8_digest 10 = .ok (.aload_n 0, 1) := by decide +kernel
theorem dX8_digest_11 : decode cX8_digest 11 = .ok (.getfield 99, 3) := by decide +kernel
theorem dX8_digest_14 : decode cX8_digest 14 = .ok (.if_icmp .ge 34, 3) := by decide +kernel
theorem dX8_digest_17 : decode cX8_digest 17 = .ok (.iconst 0, 1) := by decide +kernel
theorem dX8_digest_18 : decode cX8_digest 18 = .ok (.istore_n 2, 1) := by decide +kernel
theorem dX8_digest_19 : decode cX8_digest 19 = .ok (.iload_n 2, 1) := by decide +kernel
theorem dX8_digest_20 : decode cX8_digest 20 = .ok (.bipush 8, 2) := by decide +kernel
theorem dX8_digest_22 : decode cX8_digest 22 = .ok (.if_icmp .ge 20, 3) := by decide +kernel
theorem dX8_digest_25 : decode cX8_digest 25 = .ok (.aload_n 0, 1) := by decide +kernel
theorem dX8_digest_26 : decode cX8_digest 26 = .ok (.aload_n 0, 1) := by decide +kernel
theorem dX8_digest_27 : decode cX8_digest 27 = .ok (.iload_n 1, 1) := by decide +kernel
theorem dX8_digest_28 : decode cX8_digest 28 = .ok (.iload_n 2, 1) := by decide +kernel
theorem dX8_digest_29 : decode cX8_digest 29 = .ok (.invokevirtual 156, 3) := by decide +kernel
theorem dX8_digest_32 : decode cX8_digest 32 = .ok (.i2l, 1) := by decide +kernel
theorem dX8_digest_33 : decode cX8_digest 33 = .ok (.invokevirtual 233, 3) := by decide +kernel
theorem dX8_digest_36 : decode cX8_digest 36 = .ok (.iinc 2 1, 3) := by decide +kernel
theorem dX8_digest_39 : decode cX8_digest 39 = .ok (.goto (-20), 3) := by decide +kernel
theorem dX8_digest_42 : decode cX8_digest 42 = .ok (.iinc 1 1, 3) := by decide +kernel
theorem dX8_digest_45 : decode cX8_digest 45 = .ok (.goto (-36), 3) := by decide +kernel
theorem dX8_digest_48 : decode cX8_digest 48 = .ok (.iconst 0, 1) := by decide +kernel
theorem dX8_digest_49 : decode cX8_digest 49 = .ok (.istore_n 1, 1) := by decide +kernel
theorem dX8_digest_50 : decode cX8_digest 50 = .ok (.iload_n 1, 1) := by decide +kernel
theorem dX8_digest_51 : decode cX8_digest 51 = .ok (.aload_n 0, 1) := by decide +kernel
theorem dX8_digest_52 : decode cX8_digest 52 = .ok (.getfield 99, 3) := by decide +kernel
theorem dX8_digest_55 : decode cX8_digest 55 = .ok (.if_icmp .ge 20, 3) := by decide +kernel
theorem dX8_digest_58 : decode cX8_digest 58 = .ok (.aload_n 0, 1) := by decide +kernel
theorem dX8_digest_59 : decode cX8_digest 59 = .ok (.aload_n 0, 1) := by decide +kernel
theorem dX8_digest_60 : decode cX8_digest 60 = .ok (.getfield 25, 3) := by decide +kernel
theorem dX8_digest_63 : decode cX8_digest 63 = .ok (.iload_n 1, 1) := by decide +kernel
theorem dX8_digest_64 : decode cX8_digest 64 = .ok (.iaload, 1) := by decide +kernel
theorem dX8_digest_65 : decode cX8_digest 65 = .ok (.i2l, 1) := by decide +kernel
theorem dX8_digest_66 : decode cX8_digest 66 = .ok (.invokevirtual 233, 3) := by decide +kernel
theorem dX8_digest_69 : decode cX8_digest 69 = .ok (.iinc 1 1, 3) := by decide +kernel
theorem dX8_digest_72 : decode cX8_digest 72 = .ok (.goto (-22), 3) := by decide +kernel
theorem dX8_digest_75 : decode cX8_digest 75 = .ok (.aload_n 0, 1) := by decide +kernel
theorem dX8_digest_76 : decode cX8_digest 76 = .ok (.invokevirtual 162, 3) := by decide +kernel
theorem dX8_digest_79 : decode cX8_digest 79 = .ok (.ifCond .ne 27, 3) := by decide +kernel
theorem dX8_digest_82 : decode cX8_digest 82 = .ok (.aload_n 0, 1) := by decide +kernel
theorem dX8_digest_83 : decode cX8_digest 83 = .ok (.aload_n 0, 1) := by decide +kernel
theorem dX8_digest_84 : decode cX8_digest 84 = .ok (.bipush 12, 2) := by decide +kernel
theorem dX8_digest_86 : decode cX8_digest 86 = .ok (.iconst 0, 1) := by decide +kernel
theorem dX8_digest_87 : decode cX8_digest 87 = .ok (.invokevirtual 176, 3) := by decide +kernel
theorem dX8_digest_90 : decode cX8_digest 90 = .ok (.i2l, 1) := by decide +kernel
theorem dX8_digest_91 : decode cX8_digest 91 = .ok (.invokevirtual 233, 3) := by decide +kernel
theorem dX8_digest_94 : decode cX8_digest 94 = .ok (.aload_n 0, 1) := by decide +kernel
theorem dX8_digest_95 : decode cX8_digest 95 = .ok (.aload_n 0, 1) := by decide +kernel
theorem dX8_digest_96 : decode cX8_digest 96 = .ok (.bipush 12, 2) := by decide +kernel
theorem dX8_digest_98 : decode cX8_digest 98 = .ok (.iconst 1, 1) := by decide +kernel
theorem dX8_digest_99 : decode cX8_digest 99 = .ok (.invokevirtual 176, 3) := by decide +kernel
theorem dX8_digest_102 : decode cX8_digest 102 = .ok (.i2l, 1) := by decide +kernel
theorem dX8_digest_103 : decode cX8_digest 103 = .ok (.invokevirtual 233, 3) := by decide +kernel
theorem dX8_digest_106 : decode cX8_digest 106 = .ok (.iconst 0, 1) := by decide +kernel
theorem dX8_digest_107 : decode cX8_digest 107 = .ok (.istore_n 1, 1) := by decide +kernel
theorem dX8_digest_108 : decode cX8_digest 108 = .ok (.iload_n 1, 1) := by decide +kernel
theorem dX8_digest_109 : decode cX8_digest 109 = .ok (.aload_n 0, 1) := by decide +kernel
theorem dX8_digest_110 : decode cX8_digest 110 = .ok (.getfield 71, 3) := by decide +kernel
theorem dX8_digest_113 : decode cX8_digest 113 = .ok (.if_icmp .ge 20, 3) := by decide +kernel
theorem dX8_digest_116 : decode cX8_digest 116 = .ok (.aload_n 0, 1) := by decide +kernel
theorem dX8_digest_117 : decode cX8_digest 117 = .ok (.aload_n 0, 1) := by decide +kernel
theorem dX8_digest_118 : decode cX8_digest 118 = .ok (.getfield 7, 3) := by decide +kernel
theorem dX8_digest_121 : decode cX8_digest 121 = .ok (.iload_n 1, 1) := by decide +kernel
theorem dX8_digest_122 : decode cX8_digest 122 = .ok (.iaload, 1) := by decide +kernel
theorem dX8_digest_123 : decode cX8_digest 123 = .ok (.i2l, 1) := by decide +kernel
theorem dX8_digest_124 : decode cX8_digest 124 = .ok (.invokevirtual 233, 3) := by decide +kernel
theorem dX8_digest_127 : decode cX8_digest 127 = .ok (.iinc 1 1, 3) := by decide +kernel
theorem dX8_digest_130 : decode cX8_digest 130 = .ok (.goto (-22), 3) := by decide +kernel
theorem dX8_digest_133 : decode cX8_digest 133 = .ok (.iconst 0, 1) := by decide +kernel
theorem dX8_digest_134 : decode cX8_digest 134 = .ok (.istore_n 1, 1) := by decide +kernel
theorem dX8_digest_135 : decode cX8_digest 135 = .ok (.iload_n 1, 1) := by decide +kernel
theorem dX8_digest_136 : decode cX8_digest 136 = .ok (.bipush 9, 2) := by decide +kernel
theorem dX8_digest_138 : decode cX8_digest 138 = .ok (.if_icmp .ge 19, 3) := by decide +kernel
theorem dX8_digest_141 : decode cX8_digest 141 = .ok (.aload_n 0, 1) := by decide +kernel
theorem dX8_digest_142 : decode cX8_digest 142 = .ok (.aload_n 0, 1) := by decide +kernel
theorem dX8_digest_143 : decode cX8_digest 143 = .ok (.iload_n 1, 1) := by decide +kernel
theorem dX8_digest_144 : decode cX8_digest 144 = .ok (.invokevirtual 222, 3) := by decide +kernel
theorem dX8_digest_147 : decode cX8_digest 147 = .ok (.i2l, 1) := by decide +kernel
theorem dX8_digest_148 : decode cX8_digest 148 = .ok (.invokevirtual 233, 3) := by decide +kernel
theorem dX8_digest_151 : decode cX8_digest 151 = .ok (.iinc 1 1, 3) := by decide +kernel
theorem dX8_digest_154 : decode cX8_digest 154 = .ok (.goto (-19), 3) := by decide +kernel
theorem dX8_digest_157 : decode cX8_digest 157 = .ok (.aload_n 0, 1) := by decide +kernel
theorem dX8_digest_158 : decode cX8_digest 158 = .ok (.getfield 227, 3) := by decide +kernel
theorem dX8_digest_161 : decode cX8_digest 161 = .ok (.lreturn, 1) := by decide +kernel
theorem dJ9_max_7cf53_0 : decode cJ9_max_7cf53 0 = .ok (.iload_n 0, 1) := by decide +kernel
theorem dJ9_max_7cf53_1 : decode cJ9_max_7cf53 1 = .ok (.iload_n 1, 1) := by decide +kernel
theorem dJ9_max_7cf53_2 : decode cJ9_max_7cf53 2 = .ok (.if_icmp .lt 7, 3) := by decide +kernel
theorem dJ9_max_7cf53_5 : decode cJ9_max_7cf53 5 = .ok (.iload_n 0, 1) := by decide +kernel
theorem dJ9_max_7cf53_6 : decode cJ9_max_7cf53 6 = .ok (.goto 4, 3) := by decide +kernel
theorem dJ9_max_7cf53_9 : decode cJ9_max_7cf53 9 = .ok (.iload_n 1, 1) := by decide +kernel
theorem dJ9_max_7cf53_10 : decode cJ9_max_7cf53 10 = .ok (.ireturn, 1) := by decide +kernel
theorem dJ9_min_7cf53_0 : decode cJ9_min_7cf53 0 = .ok (.iload_n 0, 1) := by decide +kernel
theorem dJ9_min_7cf53_1 : decode cJ9_min_7cf53 1 = .ok (.iload_n 1, 1) := by decide +kernel
theorem dJ9_min_7cf53_2 : decode cJ9_min_7cf53 2 = .ok (.if_icmp .gt 7, 3) := by decide +kernel
theorem dJ9_min_7cf53_5 : decode cJ9_min_7cf53 5 = .ok (.iload_n 0, 1) := by decide +kernel
theorem dJ9_min_7cf53_6 : decode cJ9_min_7cf53 6 = .ok (.goto 4, 3) := by decide +kernel
theorem dJ9_min_7cf53_9 : decode cJ9_min_7cf53 9 = .ok (.iload_n 1, 1) := by decide +kernel
theorem dJ9_min_7cf53_10 : decode cJ9_min_7cf53 10 = .ok (.ireturn, 1) := by decide +kernel
theorem dJ0_length_8abf5_0 : decode cJ0_length_8abf5 0 = .ok (.aload_n 0, 1) := by decide +kernel
theorem dJ0_length_8abf5_1 : decode cJ0_length_8abf5 1 = .ok (.getfield 9, 3) := by decide +kernel
theorem dJ0_length_8abf5_4 : decode cJ0_length_8abf5 4 = .ok (.arraylength, 1) := by decide +kernel
theorem dJ0_length_8abf5_5 : decode cJ0_length_8abf5 5 = .ok (.aload_n 0, 1) := by decide +kernel
theorem dJ0_length_8abf5_6 : decode cJ0_length_8abf5 6 = .ok (.invokevirtual 335, 3) := by decide +kernel
theorem dJ0_length_8abf5_9 : decode cJ0_length_8abf5 9 = .ok (.ishr, 1) := by decide +kernel
theorem dJ0_length_8abf5_10 : decode cJ0_length_8abf5 10 = .ok (.ireturn, 1) := by decide +kernel
theorem dJ0_indexOf_0f7a4_0 : decode cJ0_indexOf_0f7a4 0 = .ok (.aload_n 0, 1) := by decide +kernel
theorem dJ0_indexOf_0f7a4_1 : decode cJ0_indexOf_0f7a4 1 = .ok (.iload_n 1, 1) := by decide +kernel
theorem dJ0_indexOf_0f7a4_2 : decode cJ0_indexOf_0f7a4 2 = .ok (.iconst 0, 1) := by decide +kernel
theorem dJ0_indexOf_0f7a4_3 : decode cJ0_indexOf_0f7a4 3 = .ok (.invokevirtual 633, 3) := by decide +kernel
theorem dJ0_indexOf_0f7a4_6 : decode cJ0_indexOf_0f7a4 6 = .ok (.ireturn, 1) := by decide +kernel
theorem dJ0_indexOf_7cf53_0 : decode cJ0_indexOf_7cf53 0 = .ok (.aload_n 0, 1) := by decide +kernel
theorem dJ0_indexOf_7cf53_1 : decode cJ0_indexOf_7cf53 1 = .ok (.invokevirtual 492, 3) := by decide +kernel
theorem dJ0_indexOf_7cf53_4 : decode cJ0_indexOf_7cf53 4 = .ok (.ifCond .eq 19, 3) := by decide +kernel
theorem dJ0_indexOf_7cf53_7 : decode cJ0_indexOf_7cf53 7 = .ok (.aload_n 0, 1) := by decide +kernel
theorem dJ0_indexOf_7cf53_8 : decode cJ0_indexOf_7cf53 8 = .ok (.getfield 9, 3) := by decide +kernel
theorem dJ0_indexOf_7cf53_11 : decode cJ0_indexOf_7cf53 11 = .ok (.iload_n 1, 1) := by decide +kernel
theorem dJ0_indexOf_7cf53_12 : decode cJ0_indexOf_7cf53 12 = .ok (.iload_n 2, 1) := by decide +kernel
theorem dJ0_indexOf_7cf53_13 : decode cJ0_indexOf_7cf53 13 = .ok (.aload_n 0, 1) := by decide +kernel
theorem dJ0_indexOf_7cf53_14 : decode cJ0_indexOf_7cf53 14 = .ok (.invokevirtual 505, 3) := by decide +kernel
theorem dJ0_indexOf_7cf53_17 : decode cJ0_indexOf_7cf53 17 = .ok (.invokestatic 637, 3) := by decide +kernel
theorem dJ0_indexOf_7cf53_20 : decode cJ0_indexOf_7cf53 20 = .ok (.goto 16, 3) := by decide +kernel
theorem dJ0_indexOf_7cf53_23 : decode cJ0_indexOf_7cf53 23 = .ok (.aload_n 0, 1) := by decide +kernel
theorem dJ0_indexOf_7cf53_24 : decode cJ0_indexOf_7cf53 24 = .ok (.getfield 9, 3) := by decide +kernel
theorem dJ0_indexOf_7cf53_27 : decode cJ0_indexOf_7cf53 27 = .ok (.iload_n 1, 1) := by decide +kernel
theorem dJ0_indexOf_7cf53_28 : decode cJ0_indexOf_7cf53 28 = .ok (.iload_n 2, 1) := by decide +kernel
theorem dJ0_indexOf_7cf53_29 : decode cJ0_indexOf_7cf53 29 = .ok (.aload_n 0, 1) := by decide +kernel
theorem dJ0_indexOf_7cf53_30 : decode cJ0_indexOf_7cf53 30 = .ok (.invokevirtual 505, 3) := by decide +kernel
theorem dJ0_indexOf_7cf53_33 : decode cJ0_indexOf_7cf53 33 = .ok (.invokestatic 640, 3) := by decide +kernel
theorem dJ0_indexOf_7cf53_36 : decode cJ0_indexOf_7cf53 36 = .ok (.ireturn, 1) := by decide +kernel
theorem dJ0_coder_7d493_0 : decode cJ0_coder_7d493 0 = .ok (.getstatic 38, 3) := by decide +kernel
theorem dJ0_coder_7d493_3 : decode cJ0_coder_7d493 3 = .ok (.ifCond .eq 10, 3) := by decide +kernel
theorem dJ0_coder_7d493_6 : decode cJ0_coder_7d493 6 = .ok (.aload_n 0, 1) := by decide +kernel
theorem dJ0_coder_7d493_7 : decode cJ0_coder_7d493 7 = .ok (.getfield 15, 3) := by decide +kernel
theorem dJ0_coder_7d493_10 : decode cJ0_coder_7d493 10 = .ok (.goto 4, 3) := by decide +kernel
theorem dJ0_coder_7d493_13 : decode cJ0_coder_7d493 13 = .ok (.iconst 1, 1) := by decide +kernel
theorem dJ0_coder_7d493_14 : decode cJ0_coder_7d493 14 = .ok (.ireturn, 1) := by decide +kernel
theorem dJ0_isLatin1_aae02_0 : decode cJ0_isLatin1_aae02 0 = .ok (.getstatic 38, 3) := by decide +kernel
theorem dJ0_isLatin1_aae02_3 : decode cJ0_isLatin1_aae02 3 = .ok (.ifCond .eq 14, 3) := by decide +kernel
theorem dJ0_isLatin1_aae02_6 : decode cJ0_isLatin1_aae02 6 = .ok (.aload_n 0, 1) := by decide +kernel
theorem dJ0_isLatin1_aae02_7 : decode cJ0_isLatin1_aae02 7 = .ok (.getfield 15, 3) := by decide +kernel
theorem dJ0_isLatin1_aae02_10 : decode cJ0_isLatin1_aae02 10 = .ok (.ifCond .ne 7, 3) := by decide +kernel
theorem dJ0_isLatin1_aae02_13 : decode cJ0_isLatin1_aae02 13 = .ok (.iconst 1, 1) := by decide +kernel
theorem dJ0_isLatin1_aae02_14 : decode cJ0_isLatin1_aae02 14 = .ok (.goto 4, 3) := by decide +kernel
theorem dJ0_isLatin1_aae02_17 : decode cJ0_isLatin1_aae02 17 = .ok (.iconst 0, 1) := by decide +kernel
theorem dJ0_isLatin1_aae02_18 : decode cJ0_isLatin1_aae02 18 = .ok (.ireturn, 1) := by decide +kernel
theorem dJ0_checkBoundsBeginEnd_23922_0 : decode cJ0_checkBoundsBeginEnd_23922 0 = .ok (.iload_n 0, 1) := by decide +kernel
theorem dJ0_checkBoundsBeginEnd_23922_1 : decode cJ0_checkBoundsBeginEnd_23922 1 = .ok (.iload_n 1, 1) := by decide +kernel
theorem dJ0_checkBoundsBeginEnd_23922_2 : decode cJ0_checkBoundsBeginEnd_23922 2 = .ok (.iload_n 2, 1) := by decide +kernel
theorem dJ0_checkBoundsBeginEnd_23922_3 : decode cJ0_checkBoundsBeginEnd_23922 3 = .ok (.getstatic 1053, 3) := by decide +kernel
theorem dJ0_checkBoundsBeginEnd_23922_6 : decode cJ0_checkBoundsBeginEnd_23922 6 = .ok (.invokestatic 1062, 3) := by decide +kernel
theorem dJ0_checkBoundsBeginEnd_23922_9 : decode cJ0_checkBoundsBeginEnd_23922 9 = .ok (.pop, 1) := by decide +kernel
theorem dJ0_checkBoundsBeginEnd_23922_10 : decode cJ0_checkBoundsBeginEnd_23922 10 = .ok (.return_, 1) := by decide +kernel
theorem dJ1_canEncode_9a6ad_0 : decode cJ1_canEncode_9a6ad 0 = .ok (.iload_n 0, 1) := by decide +kernel
theorem dJ1_canEncode_9a6ad_1 : decode cJ1_canEncode_9a6ad 1 = .ok (.ifCond .lt 14, 3) := by decide +kernel
theorem dJ1_canEncode_9a6ad_4 : decode cJ1_canEncode_9a6ad 4 = .ok (.iload_n 0, 1) := by decide +kernel
theorem dJ1_canEncode_9a6ad_5 : decode cJ1_canEncode_9a6ad 5 = .ok (.sipush 255, 3) := by decide +kernel
theorem dJ1_canEncode_9a6ad_8 : decode cJ1_canEncode_9a6ad 8 = .ok (.if_icmp .gt 7, 3) := by decide +kernel
theorem dJ1_canEncode_9a6ad_11 : decode cJ1_canEncode_9a6ad 11 = .ok (.iconst 1, 1) := by decide +kernel
theorem dJ1_canEncode_9a6ad_12 : decode cJ1_canEncode_9a6ad 12 = .ok (.goto 4, 3) := by decide +kernel
theorem dJ1_canEncode_9a6ad_15 : decode cJ1_canEncode_9a6ad 15 = .ok (.iconst 0, 1) := by decide +kernel
theorem dJ1_canEncode_9a6ad_16 : decode cJ1_canEncode_9a6ad 16 = .ok (.ireturn, 1) := by decide +kernel
theorem dJ1_indexOf_4cfef_0 : decode cJ1_indexOf_4cfef 0 = .ok (.iload_n 1, 1) := by decide +kernel
theorem dJ1_indexOf_4cfef_1 : decode cJ1_indexOf_4cfef 1 = .ok (.invokestatic 88, 3) := by decide +kernel
theorem dJ1_indexOf_4cfef_4 : decode cJ1_indexOf_4cfef 4 = .ok (.ifCond .ne 5, 3) := by decide +kernel
theorem dJ1_indexOf_4cfef_7 : decode cJ1_indexOf_4cfef 7 = .ok (.iconst (-1), 1) := by decide +kernel
theorem dJ1_indexOf_4cfef_8 : decode cJ1_indexOf_4cfef 8 = .ok (.ireturn, 1) := by decide +kernel
theorem dJ1_indexOf_4cfef_9 : decode cJ1_indexOf_4cfef 9 = .ok (.iload_n 2, 1) := by decide +kernel
theorem dJ1_indexOf_4cfef_10 : decode cJ1_indexOf_4cfef 10 = .ok (.iconst 0, 1) := by decide +kernel
theorem dJ1_indexOf_4cfef_11 : decode cJ1_indexOf_4cfef 11 = .ok (.invokestatic 92, 3) := by decide +kernel
theorem dJ1_indexOf_4cfef_14 : decode cJ1_indexOf_4cfef 14 = .ok (.istore_n 2, 1) := by decide +kernel
theorem dJ1_indexOf_4cfef_15 : decode cJ1_indexOf_4cfef 15 = .ok (.iload_n 3, 1) := by decide +kernel
theorem dJ1_indexOf_4cfef_16 : decode cJ1_indexOf_4cfef 16 = .ok (.aload_n 0, 1) := by decide +kernel
theorem dJ1_indexOf_4cfef_17 : decode cJ1_indexOf_4cfef 17 = .ok (.arraylength, 1) := by decide +kernel
theorem dJ1_indexOf_4cfef_18 : decode cJ1_indexOf_4cfef 18 = .ok (.invokestatic 38, 3) := by decide +kernel
theorem dJ1_indexOf_4cfef_21 : decode cJ1_indexOf_4cfef 21 = .ok (.istore_n 3, 1) := by decide +kernel
theorem dJ1_indexOf_4cfef_22 : decode cJ1_indexOf_4cfef 22 = .ok (.iload_n 2, 1) := by decide +kernel
theorem dJ1_indexOf_4cfef_23 : decode cJ1_indexOf_4cfef 23 = .ok (.iload_n 3, 1) := by decide +kernel
theorem dJ1_indexOf_4cfef_24 : decode cJ1_indexOf_4cfef 24 = .ok (.if_icmp .lt 5, 3) := by decide +kernel
theorem dJ1_indexOf_4cfef_27 : decode cJ1_indexOf_4cfef 27 = .ok (.iconst (-1), 1) := by decide +kernel
theorem dJ1_indexOf_4cfef_28 : decode cJ1_indexOf_4cfef 28 = .ok (.ireturn, 1) := by decide +kernel
theorem dJ1_indexOf_4cfef_29 : decode cJ1_indexOf_4cfef 29 = .ok (.aload_n 0, 1) := by decide +kernel
theorem dJ1_indexOf_4cfef_30 : decode cJ1_indexOf_4cfef 30 = .ok (.iload_n 1, 1) := by decide +kernel
theorem dJ1_indexOf_4cfef_31 : decode cJ1_indexOf_4cfef 31 = .ok (.iload_n 2, 1) := by decide +kernel
theorem dJ1_indexOf_4cfef_32 : decode cJ1_indexOf_4cfef 32 = .ok (.iload_n 3, 1) := by decide +kernel
theorem dJ1_indexOf_4cfef_33 : decode cJ1_indexOf_4cfef 33 = .ok (.invokestatic 95, 3) := by decide +kernel
theorem dJ1_indexOf_4cfef_36 : decode cJ1_indexOf_4cfef 36 = .ok (.ireturn, 1) := by decide +kernel
theorem dJ1_indexOfChar_4cfef_0 : decode cJ1_indexOfChar_4cfef 0 = .ok (.iload_n 1, 1) := by decide +kernel
theorem dJ1_indexOfChar_4cfef_1 : decode cJ1_indexOfChar_4cfef 1 = .ok (.i2b, 1) := by decide +kernel
theorem dJ1_indexOfChar_4cfef_2 : decode cJ1_indexOfChar_4cfef 2 = .ok (.istore 4, 2) := by decide +kernel
theorem dJ1_indexOfChar_4cfef_4 : decode cJ1_indexOfChar_4cfef 4 = .ok (.iload_n 2, 1) := by decide +kernel
theorem dJ1_indexOfChar_4cfef_5 : decode cJ1_indexOfChar_4cfef 5 = .ok (.istore 5, 2) := by decide +kernel
theorem dJ1_indexOfChar_4cfef_7 : decode cJ1_indexOfChar_4cfef 7 = .ok (.iload 5, 2) := by decide +kernel
theorem dJ1_indexOfChar_4cfef_9 : decode cJ1_indexOfChar_4cfef 9 = .ok (.iload_n 3, 1) := by decide +kernel
theorem dJ1_indexOfChar_4cfef_10 : decode cJ1_indexOfChar_4cfef 10 = .ok (.if_icmp .ge 21, 3) := by decide +kernel
theorem dJ1_indexOfChar_4cfef_13 : decode cJ1_indexOfChar_4cfef 13 = .ok (.aload_n 0, 1) := by decide +kernel
theorem dJ1_indexOfChar_4cfef_14 : decode cJ1_indexOfChar_4cfef 14 = .ok (.iload 5, 2) := by decide +kernel
theorem dJ1_indexOfChar_4cfef_16 : decode cJ1_indexOfChar_4cfef 16 = .ok (.baload, 1) := by decide +kernel
theorem dJ1_indexOfChar_4cfef_17 : decode cJ1_indexOfChar_4cfef 17 = .ok (.iload 4, 2) := by decide +kernel
theorem dJ1_indexOfChar_4cfef_19 : decode cJ1_indexOfChar_4cfef 19 = .ok (.if_icmp .ne 6, 3) := by decide +kernel
theorem dJ1_indexOfChar_4cfef_22 : decode cJ1_indexOfChar_4cfef 22 = .ok (.iload 5, 2) := by decide +kernel
theorem dJ1_indexOfChar_4cfef_24 : decode cJ1_indexOfChar_4cfef 24 = .ok (.ireturn, 1) := by decide +kernel
theorem dJ1_indexOfChar_4cfef_25 : decode cJ1_indexOfChar_4cfef 25 = .ok (.iinc 5 1, 3) := by decide +kernel
theorem dJ1_indexOfChar_4cfef_28 : decode cJ1_indexOfChar_4cfef 28 = .ok (.goto (-21), 3) := by decide +kernel
theorem dJ1_indexOfChar_4cfef_31 : decode cJ1_indexOfChar_4cfef 31 = .ok (.iconst (-1), 1) := by decide +kernel
theorem dJ1_indexOfChar_4cfef_32 : decode cJ1_indexOfChar_4cfef 32 = .ok (.ireturn, 1) := by decide +kernel
theorem dJ7_fill_53178_0 : decode cJ7_fill_53178 0 = .ok (.iconst 0, 1) := by decide +kernel
theorem dJ7_fill_53178_1 : decode cJ7_fill_53178 1 = .ok (.istore_n 2, 1) := by decide +kernel
theorem dJ7_fill_53178_2 : decode cJ7_fill_53178 2 = .ok (.aload_n 0, 1) := by decide +kernel
theorem dJ7_fill_53178_3 : decode cJ7_fill_53178 3 = .ok (.arraylength, 1) := by decide +kernel
theorem dJ7_fill_53178_4 : decode cJ7_fill_53178 4 = .ok (.istore_n 3, 1) := by decide +kernel
theorem dJ7_fill_53178_5 : decode cJ7_fill_53178 5 = .ok (.iload_n 2, 1) := by decide +kernel
theorem dJ7_fill_53178_6 : decode cJ7_fill_53178 6 = .ok (.iload_n 3, 1) := by decide +kernel
theorem dJ7_fill_53178_7 : decode cJ7_fill_53178 7 = .ok (.if_icmp .ge 13, 3) := by decide +kernel
theorem dJ7_fill_53178_10 : decode cJ7_fill_53178 10 = .ok (.aload_n 0, 1) := by decide +kernel
theorem dJ7_fill_53178_11 : decode cJ7_fill_53178 11 = .ok (.iload_n 2, 1) := by decide +kernel
theorem dJ7_fill_53178_12 : decode cJ7_fill_53178 12 = .ok (.iload_n 1, 1) := by decide +kernel
theorem dJ7_fill_53178_13 : decode cJ7_fill_53178 13 = .ok (.iastore, 1) := by decide +kernel
theorem dJ7_fill_53178_14 : decode cJ7_fill_53178 14 = .ok (.iinc 2 1, 3) := by decide +kernel
theorem dJ7_fill_53178_17 : decode cJ7_fill_53178 17 = .ok (.goto (-12), 3) := by decide +kernel
theorem dJ7_fill_53178_20 : decode cJ7_fill_53178 20 = .ok (.return_, 1) := by decide +kernel
theorem dL_law_0 : decode cL_law 0 = .ok (.new 7, 3) := by decide +kernel
theorem dL_law_3 : decode cL_law 3 = .ok (.dup, 1) := by decide +kernel
theorem dL_law_4 : decode cL_law 4 = .ok (.invokespecial 9, 3) := by decide +kernel
theorem dL_law_7 : decode cL_law 7 = .ok (.astore_n 1, 1) := by decide +kernel
theorem dL_law_8 : decode cL_law 8 = .ok (.new 10, 3) := by decide +kernel
theorem dL_law_11 : decode cL_law 11 = .ok (.dup, 1) := by decide +kernel
theorem dL_law_12 : decode cL_law 12 = .ok (.invokespecial 12, 3) := by decide +kernel
theorem dL_law_15 : decode cL_law 15 = .ok (.astore_n 2, 1) := by decide +kernel
theorem dL_law_16 : decode cL_law 16 = .ok (.iconst 0, 1) := by decide +kernel
theorem dL_law_17 : decode cL_law 17 = .ok (.istore_n 3, 1) := by decide +kernel
theorem dL_law_18 : decode cL_law 18 = .ok (.iload_n 3, 1) := by decide +kernel
theorem dL_law_19 : decode cL_law 19 = .ok (.aload_n 0, 1) := by decide +kernel
theorem dL_law_20 : decode cL_law 20 = .ok (.arraylength, 1) := by decide +kernel
theorem dL_law_21 : decode cL_law 21 = .ok (.iconst 4, 1) := by decide +kernel
theorem dL_law_22 : decode cL_law 22 = .ok (.isub, 1) := by decide +kernel
theorem dL_law_23 : decode cL_law 23 = .ok (.if_icmp .gt 561, 3) := by decide +kernel
theorem dL_law_26 : decode cL_law 26 = .ok (.aload_n 0, 1) := by decide +kernel
theorem dL_law_27 : decode cL_law 27 = .ok (.iload_n 3, 1) := by decide +kernel
theorem dL_law_28 : decode cL_law 28 = .ok (.iaload, 1) := by decide +kernel
theorem dL_law_29 : decode cL_law 29 = .ok (.bipush 31, 2) := by decide +kernel
theorem dL_law_31 : decode cL_law 31 = .ok (.iand, 1) := by decide +kernel
theorem dL_law_32 : decode cL_law 32 = .ok (.tableswitch 546 0 18 #[92, 115, 128, 141, 154, 187, 220, 243, 256, 289, 312, 345, 368, 427, 440, 483, 496, 509, 532], 92) := by decide +kernel
theorem dL_law_124 : decode cL_law 124 = .ok (.aload_n 1, 1) := by decide +kernel
theorem dL_law_125 : decode cL_law 125 = .ok (.aload_n 0, 1) := by decide +kernel
theorem dL_law_126 : decode cL_law 126 = .ok (.iload_n 3, 1) := by decide +kernel
theorem dL_law_127 : decode cL_law 127 = .ok (.iconst 1, 1) := by decide +kernel
theorem dL_law_128 : decode cL_law 128 = .ok (.iadd, 1) := by decide +kernel
theorem dL_law_129 : decode cL_law 129 = .ok (.iaload, 1) := by decide +kernel
theorem dL_law_130 : decode cL_law 130 = .ok (.invokevirtual 13, 3) := by decide +kernel
theorem dL_law_133 : decode cL_law 133 = .ok (.aload_n 2, 1) := by decide +kernel
theorem dL_law_134 : decode cL_law 134 = .ok (.aload_n 0, 1) := by decide +kernel
theorem dL_law_135 : decode cL_law 135 = .ok (.iload_n 3, 1) := by decide +kernel
theorem dL_law_136 : decode cL_law 136 = .ok (.iconst 1, 1) := by decide +kernel
theorem dL_law_137 : decode cL_law 137 = .ok (.iadd, 1) := by decide +kernel
theorem dL_law_138 : decode cL_law 138 = .ok (.iaload, 1) := by decide +kernel
theorem dL_law_139 : decode cL_law 139 = .ok (.invokevirtual 17, 3) := by decide +kernel
theorem dL_law_142 : decode cL_law 142 = .ok (.if_icmp .eq 436, 3) := by decide +kernel
theorem dL_law_145 : decode cL_law 145 = .ok (.iconst 0, 1) := by decide +kernel
theorem dL_law_146 : decode cL_law 146 = .ok (.ireturn, 1) := by decide +kernel
theorem dL_law_147 : decode cL_law 147 = .ok (.aload_n 1, 1) := by decide +kernel
theorem dL_law_148 : decode cL_law 148 = .ok (.invokevirtual 18, 3) := by decide +kernel
theorem dL_law_151 : decode cL_law 151 = .ok (.aload_n 2, 1) := by decide +kernel
theorem dL_law_152 : decode cL_law 152 = .ok (.invokevirtual 22, 3) := by decide +kernel
theorem dL_law_155 : decode cL_law 155 = .ok (.if_icmp .eq 423, 3) := by decide +kernel
theorem dL_law_158 : decode cL_law 158 = .ok (.iconst 0, 1) := by decide +kernel
theorem dL_law_159 : decode cL_law 159 = .ok (.ireturn, 1) := by decide +kernel
theorem dL_law_160 : decode cL_law 160 = .ok (.aload_n 1, 1) := by decide +kernel
theorem dL_law_161 : decode cL_law 161 = .ok (.invokevirtual 23, 3) := by decide +kernel
theorem dL_law_164 : decode cL_law 164 = .ok (.aload_n 2, 1) := by decide +kernel
theorem dL_law_165 : decode cL_law 165 = .ok (.invokevirtual 26, 3) := by decide +kernel
theorem dL_law_168 : decode cL_law 168 = .ok (.if_icmp .eq 410, 3) := by decide +kernel
theorem dL_law_171 : decode cL_law 171 = .ok (.iconst 0, 1) := by decide +kernel
theorem dL_law_172 : decode cL_law 172 = .ok (.ireturn, 1) := by decide +kernel
theorem dL_law_173 : decode cL_law 173 = .ok (.aload_n 1, 1) := by decide +kernel
theorem dL_law_174 : decode cL_law 174 = .ok (.invokevirtual 27, 3) := by decide +kernel
theorem dL_law_177 : decode cL_law 177 = .ok (.aload_n 2, 1) := by decide +kernel
theorem dL_law_178 : decode cL_law 178 = .ok (.invokevirtual 30, 3) := by decide +kernel
theorem dL_law_181 : decode cL_law 181 = .ok (.if_icmp .eq 397, 3) := by decide +kernel
theorem dL_law_184 : decode cL_law 184 = .ok (.iconst 0, 1) := by decide +kernel
theorem dL_law_185 : decode cL_law 185 = .ok (.ireturn, 1) := by decide +kernel
theorem dL_law_186 : decode cL_law 186 = .ok (.aload_n 1, 1) := by decide +kernel
theorem dL_law_187 : decode cL_law 187 = .ok (.aload_n 0, 1) := by decide +kernel
theorem dL_law_188 : decode cL_law 188 = .ok (.iload_n 3, 1) := by decide +kernel
theorem dL_law_189 : decode cL_law 189 = .ok (.iconst 1, 1) := by decide +kernel
theorem dL_law_190 : decode cL_law 190 = .ok (.iadd, 1) := by decide +kernel
theorem dL_law_191 : decode cL_law 191 = .ok (.iaload, 1) := by decide +kernel
theorem dL_law_192 : decode cL_law 192 = .ok (.aload_n 0, 1) := by decide +kernel
theorem dL_law_193 : decode cL_law 193 = .ok (.iload_n 3, 1) := by decide +kernel
theorem dL_law_194 : decode cL_law 194 = .ok (.iconst 2, 1) := by decide +kernel
theorem dL_law_195 : decode cL_law 195 = .ok (.iadd, 1) := by decide +kernel
theorem dL_law_196 : decode cL_law 196 = .ok (.iaload, 1) := by decide +kernel
theorem dL_law_197 : decode cL_law 197 = .ok (.invokevirtual 31, 3) := by decide +kernel
theorem dL_law_200 : decode cL_law 200 = .ok (.aload_n 2, 1) := by decide +kernel
theorem dL_law_201 : decode cL_law 201 = .ok (.aload_n 0, 1) := by decide +kernel
theorem dL_law_202 : decode cL_law 202 = .ok (.iload_n 3, 1) := by decide +kernel
theorem dL_law_203 : decode cL_law 203 = .ok (.iconst 1, 1) := by decide +kernel
theorem dL_law_204 : decode cL_law 204 = .ok (.iadd, 1) := by decide +kernel
theorem dL_law_205 : decode cL_law 205 = .ok (.iaload, 1) := by decide +kernel
theorem dL_law_206 : decode cL_law 206 = .ok (.aload_n 0, 1) := by decide +kernel
theorem dL_law_207 : decode cL_law 207 = .ok (.iload_n 3, 1) := by decide +kernel
theorem dL_law_208 : decode cL_law 208 = .ok (.iconst 2, 1) := by decide +kernel
theorem dL_law_209 : decode cL_law 209 = .ok (.iadd, 1) := by decide +kernel
theorem dL_law_210 : decode cL_law 210 = .ok (.iaload, 1) := by decide +kernel
theorem dL_law_211 : decode cL_law 211 = .ok (.invokevirtual 35, 3) := by decide +kernel
theorem dL_law_214 : decode cL_law 214 = .ok (.if_icmp .eq 364, 3) := by decide +kernel
theorem dL_law_217 : decode cL_law 217 = .ok (.iconst 0, 1) := by decide +kernel
theorem dL_law_218 : decode cL_law 218 = .ok (.ireturn, 1) := by decide +kernel
theorem dL_law_219 : decode cL_law 219 = .ok (.aload_n 1, 1) := by decide +kernel
theorem dL_law_220 : decode cL_law 220 = .ok (.aload_n 0, 1) := by decide +kernel
theorem dL_law_221 : decode cL_law 221 = .ok (.iload_n 3, 1) := by decide +kernel
theorem dL_law_222 : decode cL_law 222 = .ok (.iconst 1, 1) := by decide +kernel
theorem dL_law_223 : decode cL_law 223 = .ok (.iadd, 1) := by decide +kernel
theorem dL_law_224 : decode cL_law 224 = .ok (.iaload, 1) := by decide +kernel
theorem dL_law_225 : decode cL_law 225 = .ok (.aload_n 0, 1) := by decide +kernel
theorem dL_law_226 : decode cL_law 226 = .ok (.iload_n 3, 1) := by decide +kernel
theorem dL_law_227 : decode cL_law 227 = .ok (.iconst 2, 1) := by decide +kernel
theorem dL_law_228 : decode cL_law 228 = .ok (.iadd, 1) := by decide +kernel
theorem dL_law_229 : decode cL_law 229 = .ok (.iaload, 1) := by decide +kernel
theorem dL_law_230 : decode cL_law 230 = .ok (.invokevirtual 36, 3) := by decide +kernel
theorem dL_law_233 : decode cL_law 233 = .ok (.aload_n 2, 1) := by decide +kernel
theorem dL_law_234 : decode cL_law 234 = .ok (.aload_n 0, 1) := by decide +kernel
theorem dL_law_235 : decode cL_law 235 = .ok (.iload_n 3, 1) := by decide +kernel
theorem dL_law_236 : decode cL_law 236 = .ok (.iconst 1, 1) := by decide +kernel
theorem dL_law_237 : decode cL_law 237 = .ok (.iadd, 1) := by decide +kernel
theorem dL_law_238 : decode cL_law 238 = .ok (.iaload, 1) := by decide +kernel
theorem dL_law_239 : decode cL_law 239 = .ok (.aload_n 0, 1) := by decide +kernel
theorem dL_law_240 : decode cL_law 240 = .ok (.iload_n 3, 1) := by decide +kernel
theorem dL_law_241 : decode cL_law 241 = .ok (.iconst 2, 1) := by decide +kernel
theorem dL_law_242 : decode cL_law 242 = .ok (.iadd, 1) := by decide +kernel
theorem dL_law_243 : decode cL_law 243 = .ok (.iaload, 1) := by decide +kernel
theorem dL_law_244 : decode cL_law 244 = .ok (.invokevirtual 39, 3) := by decide +kernel
theorem dL_law_247 : decode cL_law 247 = .ok (.if_icmp .eq 331, 3) := by decide +kernel
theorem dL_law_250 : decode cL_law 250 = .ok (.iconst 0, 1) := by decide +kernel
theorem dL_law_251 : decode cL_law 251 = .ok (.ireturn, 1) := by decide +kernel
theorem dL_law_252 : decode cL_law 252 = .ok (.aload_n 1, 1) := by decide +kernel
theorem dL_law_253 : decode cL_law 253 = .ok (.aload_n 0, 1) := by decide +kernel
theorem dL_law_254 : decode cL_law 254 = .ok (.iload_n 3, 1) := by decide +kernel
theorem dL_law_255 : decode cL_law 255 = .ok (.iconst 1, 1) := by decide +kernel
theorem dL_law_256 : decode cL_law 256 = .ok (.iadd, 1) := by decide +kernel
theorem dL_law_257 : decode cL_law 257 = .ok (.iaload, 1) := by decide +kernel
theorem dL_law_258 : decode cL_law 258 = .ok (.invokevirtual 40, 3) := by decide +kernel
theorem dL_law_261 : decode cL_law 261 = .ok (.aload_n 2, 1) := by decide +kernel
theorem dL_law_262 : decode cL_law 262 = .ok (.aload_n 0, 1) := by decide +kernel
theorem dL_law_263 : decode cL_law 263 = .ok (.iload_n 3, 1) := by decide +kernel
theorem dL_law_264 : decode cL_law 264 = .ok (.iconst 1, 1) := by decide +kernel
theorem dL_law_265 : decode cL_law 265 = .ok (.iadd, 1) := by decide +kernel
theorem dL_law_266 : decode cL_law 266 = .ok (.iaload, 1) := by decide +kernel
theorem dL_law_267 : decode cL_law 267 = .ok (.invokevirtual 43, 3) := by decide +kernel
theorem dL_law_270 : decode cL_law 270 = .ok (.if_icmp .eq 308, 3) := by decide +kernel
theorem dL_law_273 : decode cL_law 273 = .ok (.iconst 0, 1) := by decide +kernel
theorem dL_law_274 : decode cL_law 274 = .ok (.ireturn, 1) := by decide +kernel
theorem dL_law_275 : decode cL_law 275 = .ok (.aload_n 1, 1) := by decide +kernel
theorem dL_law_276 : decode cL_law 276 = .ok (.invokevirtual 44, 3) := by decide +kernel
theorem dL_law_279 : decode cL_law 279 = .ok (.aload_n 2, 1) := by decide +kernel
theorem dL_law_280 : decode cL_law 280 = .ok (.invokevirtual 47, 3) := by decide +kernel
theorem dL_law_283 : decode cL_law 283 = .ok (.if_icmp .eq 295, 3) := by decide +kernel
theorem dL_law_286 : decode cL_law 286 = .ok (.iconst 0, 1) := by decide +kernel
theorem dL_law_287 : decode cL_law 287 = .ok (.ireturn, 1) := by decide +kernel
theorem dL_law_288 : decode cL_law 288 = .ok (.aload_n 1, 1) := by decide +kernel
theorem dL_law_289 : decode cL_law 289 = .ok (.aload_n 0, 1) := by decide +kernel
theorem dL_law_290 : decode cL_law 290 = .ok (.iload_n 3, 1) := by decide +kernel
theorem dL_law_291 : decode cL_law 291 = .ok (.iconst 1, 1) := by decide +kernel
theorem dL_law_292 : decode cL_law 292 = .ok (.iadd, 1) := by decide +kernel
theorem dL_law_293 : decode cL_law 293 = .ok (.iaload, 1) := by decide +kernel
theorem dL_law_294 : decode cL_law 294 = .ok (.aload_n 0, 1) := by decide +kernel
theorem dL_law_295 : decode cL_law 295 = .ok (.iload_n 3, 1) := by decide +kernel
theorem dL_law_296 : decode cL_law 296 = .ok (.iconst 2, 1) := by decide +kernel
theorem dL_law_297 : decode cL_law 297 = .ok (.iadd, 1) := by decide +kernel
theorem dL_law_298 : decode cL_law 298 = .ok (.iaload, 1) := by decide +kernel
theorem dL_law_299 : decode cL_law 299 = .ok (.invokevirtual 48, 3) := by decide +kernel
theorem dL_law_302 : decode cL_law 302 = .ok (.aload_n 2, 1) := by decide +kernel
theorem dL_law_303 : decode cL_law 303 = .ok (.aload_n 0, 1) := by decide +kernel
theorem dL_law_304 : decode cL_law 304 = .ok (.iload_n 3, 1) := by decide +kernel
theorem dL_law_305 : decode cL_law 305 = .ok (.iconst 1, 1) := by decide +kernel
theorem dL_law_306 : decode cL_law 306 = .ok (.iadd, 1) := by decide +kernel
theorem dL_law_307 : decode cL_law 307 = .ok (.iaload, 1) := by decide +kernel
theorem dL_law_308 : decode cL_law 308 = .ok (.aload_n 0, 1) := by decide +kernel
theorem dL_law_309 : decode cL_law 309 = .ok (.iload_n 3, 1) := by decide +kernel
theorem dL_law_310 : decode cL_law 310 = .ok (.iconst 2, 1) := by decide +kernel
theorem dL_law_311 : decode cL_law 311 = .ok (.iadd, 1) := by decide +kernel
theorem dL_law_312 : decode cL_law 312 = .ok (.iaload, 1) := by decide +kernel
theorem dL_law_313 : decode cL_law 313 = .ok (.invokevirtual 51, 3) := by decide +kernel
theorem dL_law_316 : decode cL_law 316 = .ok (.if_icmp .eq 262, 3) := by decide +kernel
theorem dL_law_319 : decode cL_law 319 = .ok (.iconst 0, 1) := by decide +kernel
theorem dL_law_320 : decode cL_law 320 = .ok (.ireturn, 1) := by decide +kernel
theorem dL_law_321 : decode cL_law 321 = .ok (.aload_n 1, 1) := by decide +kernel
theorem dL_law_322 : decode cL_law 322 = .ok (.aload_n 0, 1) := by decide +kernel
theorem dL_law_323 : decode cL_law 323 = .ok (.iload_n 3, 1) := by decide +kernel
theorem dL_law_324 : decode cL_law 324 = .ok (.iconst 1, 1) := by decide +kernel
theorem dL_law_325 : decode cL_law 325 = .ok (.iadd, 1) := by decide +kernel
theorem dL_law_326 : decode cL_law 326 = .ok (.iaload, 1) := by decide +kernel
theorem dL_law_327 : decode cL_law 327 = .ok (.invokevirtual 52, 3) := by decide +kernel
theorem dL_law_330 : decode cL_law 330 = .ok (.aload_n 2, 1) := by decide +kernel
theorem dL_law_331 : decode cL_law 331 = .ok (.aload_n 0, 1) := by decide +kernel
theorem dL_law_332 : decode cL_law 332 = .ok (.iload_n 3, 1) := by decide +kernel
theorem dL_law_333 : decode cL_law 333 = .ok (.iconst 1, 1) := by decide +kernel
theorem dL_law_334 : decode cL_law 334 = .ok (.iadd, 1) := by decide +kernel
theorem dL_law_335 : decode cL_law 335 = .ok (.iaload, 1) := by decide +kernel
theorem dL_law_336 : decode cL_law 336 = .ok (.invokevirtual 55, 3) := by decide +kernel
theorem dL_law_339 : decode cL_law 339 = .ok (.if_icmp .eq 239, 3) := by decide +kernel
theorem dL_law_342 : decode cL_law 342 = .ok (.iconst 0, 1) := by decide +kernel
theorem dL_law_343 : decode cL_law 343 = .ok (.ireturn, 1) := by decide +kernel
theorem dL_law_344 : decode cL_law 344 = .ok (.aload_n 1, 1) := by decide +kernel
theorem dL_law_345 : decode cL_law 345 = .ok (.aload_n 0, 1) := by decide +kernel
theorem dL_law_346 : decode cL_law 346 = .ok (.iload_n 3, 1) := by decide +kernel
theorem dL_law_347 : decode cL_law 347 = .ok (.iconst 1, 1) := by decide +kernel
theorem dL_law_348 : decode cL_law 348 = .ok (.iadd, 1) := by decide +kernel
theorem dL_law_349 : decode cL_law 349 = .ok (.iaload, 1) := by decide +kernel
theorem dL_law_350 : decode cL_law 350 = .ok (.aload_n 0, 1) := by decide +kernel
theorem dL_law_351 : decode cL_law 351 = .ok (.iload_n 3, 1) := by decide +kernel
theorem dL_law_352 : decode cL_law 352 = .ok (.iconst 2, 1) := by decide +kernel
theorem dL_law_353 : decode cL_law 353 = .ok (.iadd, 1) := by decide +kernel
theorem dL_law_354 : decode cL_law 354 = .ok (.iaload, 1) := by decide +kernel
theorem dL_law_355 : decode cL_law 355 = .ok (.invokevirtual 56, 3) := by decide +kernel
theorem dL_law_358 : decode cL_law 358 = .ok (.aload_n 2, 1) := by decide +kernel
theorem dL_law_359 : decode cL_law 359 = .ok (.aload_n 0, 1) := by decide +kernel
theorem dL_law_360 : decode cL_law 360 = .ok (.iload_n 3, 1) := by decide +kernel
theorem dL_law_361 : decode cL_law 361 = .ok (.iconst 1, 1) := by decide +kernel
theorem dL_law_362 : decode cL_law 362 = .ok (.iadd, 1) := by decide +kernel
theorem dL_law_363 : decode cL_law 363 = .ok (.iaload, 1) := by decide +kernel
theorem dL_law_364 : decode cL_law 364 = .ok (.aload_n 0, 1) := by decide +kernel
theorem dL_law_365 : decode cL_law 365 = .ok (.iload_n 3, 1) := by decide +kernel
theorem dL_law_366 : decode cL_law 366 = .ok (.iconst 2, 1) := by decide +kernel
theorem dL_law_367 : decode cL_law 367 = .ok (.iadd, 1) := by decide +kernel
theorem dL_law_368 : decode cL_law 368 = .ok (.iaload, 1) := by decide +kernel
theorem dL_law_369 : decode cL_law 369 = .ok (.invokevirtual 59, 3) := by decide +kernel
theorem dL_law_372 : decode cL_law 372 = .ok (.if_icmp .eq 206, 3) := by decide +kernel
theorem dL_law_375 : decode cL_law 375 = .ok (.iconst 0, 1) := by decide +kernel
theorem dL_law_376 : decode cL_law 376 = .ok (.ireturn, 1) := by decide +kernel
theorem dL_law_377 : decode cL_law 377 = .ok (.aload_n 1, 1) := by decide +kernel
theorem dL_law_378 : decode cL_law 378 = .ok (.aload_n 0, 1) := by decide +kernel
theorem dL_law_379 : decode cL_law 379 = .ok (.iload_n 3, 1) := by decide +kernel
theorem dL_law_380 : decode cL_law 380 = .ok (.iconst 1, 1) := by decide +kernel
theorem dL_law_381 : decode cL_law 381 = .ok (.iadd, 1) := by decide +kernel
theorem dL_law_382 : decode cL_law 382 = .ok (.iaload, 1) := by decide +kernel
theorem dL_law_383 : decode cL_law 383 = .ok (.invokevirtual 60, 3) := by decide +kernel
theorem dL_law_386 : decode cL_law 386 = .ok (.aload_n 2, 1) := by decide +kernel
theorem dL_law_387 : decode cL_law 387 = .ok (.aload_n 0, 1) := by decide +kernel
theorem dL_law_388 : decode cL_law 388 = .ok (.iload_n 3, 1) := by decide +kernel
theorem dL_law_389 : decode cL_law 389 = .ok (.iconst 1, 1) := by decide +kernel
theorem dL_law_390 : decode cL_law 390 = .ok (.iadd, 1) := by decide +kernel
theorem dL_law_391 : decode cL_law 391 = .ok (.iaload, 1) := by decide +kernel
theorem dL_law_392 : decode cL_law 392 = .ok (.invokevirtual 63, 3) := by decide +kernel
theorem dL_law_395 : decode cL_law 395 = .ok (.if_icmp .eq 183, 3) := by decide +kernel
theorem dL_law_398 : decode cL_law 398 = .ok (.iconst 0, 1) := by decide +kernel
theorem dL_law_399 : decode cL_law 399 = .ok (.ireturn, 1) := by decide +kernel
theorem dL_law_400 : decode cL_law 400 = .ok (.aload_n 1, 1) := by decide +kernel
theorem dL_law_401 : decode cL_law 401 = .ok (.aload_n 0, 1) := by decide +kernel
theorem dL_law_402 : decode cL_law 402 = .ok (.iload_n 3, 1) := by decide +kernel
theorem dL_law_403 : decode cL_law 403 = .ok (.iconst 1, 1) := by decide +kernel
theorem dL_law_404 : decode cL_law 404 = .ok (.iadd, 1) := by decide +kernel
theorem dL_law_405 : decode cL_law 405 = .ok (.iaload, 1) := by decide +kernel
theorem dL_law_406 : decode cL_law 406 = .ok (.aload_n 0, 1) := by decide +kernel
theorem dL_law_407 : decode cL_law 407 = .ok (.iload_n 3, 1) := by decide +kernel
theorem dL_law_408 : decode cL_law 408 = .ok (.iconst 2, 1) := by decide +kernel
theorem dL_law_409 : decode cL_law 409 = .ok (.iadd, 1) := by decide +kernel
theorem dL_law_410 : decode cL_law 410 = .ok (.iaload, 1) := by decide +kernel
theorem dL_law_411 : decode cL_law 411 = .ok (.aload_n 0, 1) := by decide +kernel
theorem dL_law_412 : decode cL_law 412 = .ok (.iload_n 3, 1) := by decide +kernel
theorem dL_law_413 : decode cL_law 413 = .ok (.iconst 3, 1) := by decide +kernel
theorem dL_law_414 : decode cL_law 414 = .ok (.iadd, 1) := by decide +kernel
theorem dL_law_415 : decode cL_law 415 = .ok (.iaload, 1) := by decide +kernel
theorem dL_law_416 : decode cL_law 416 = .ok (.ifCond .eq 7, 3) := by decide +kernel
theorem dL_law_419 : decode cL_law 419 = .ok (.iconst 1, 1) := by decide +kernel
theorem dL_law_420 : decode cL_law 420 = .ok (.goto 4, 3) := by decide +kernel
theorem dL_law_423 : decode cL_law 423 = .ok (.iconst 0, 1) := by decide +kernel
theorem dL_law_424 : decode cL_law 424 = .ok (.invokevirtual 64, 3) := by decide +kernel
theorem dL_law_427 : decode cL_law 427 = .ok (.aload_n 2, 1) := by decide +kernel
theorem dL_law_428 : decode cL_law 428 = .ok (.aload_n 0, 1) := by decide +kernel
theorem dL_law_429 : decode cL_law 429 = .ok (.iload_n 3, 1) := by decide +kernel
theorem dL_law_430 : decode cL_law 430 = .ok (.iconst 1, 1) := by decide +kernel
theorem dL_law_431 : decode cL_law 431 = .ok (.iadd, 1) := by decide +kernel
theorem dL_law_432 : decode cL_law 432 = .ok (.iaload, 1) := by decide +kernel
theorem dL_law_433 : decode cL_law 433 = .ok (.aload_n 0, 1) := by decide +kernel
theorem dL_law_434 : decode cL_law 434 = .ok (.iload_n 3, 1) := by decide +kernel
theorem dL_law_435 : decode cL_law 435 = .ok (.iconst 2, 1) := by decide +kernel
theorem dL_law_436 : decode cL_law 436 = .ok (.iadd, 1) := by decide +kernel
theorem dL_law_437 : decode cL_law 437 = .ok (.iaload, 1) := by decide +kernel
theorem dL_law_438 : decode cL_law 438 = .ok (.aload_n 0, 1) := by decide +kernel
theorem dL_law_439 : decode cL_law 439 = .ok (.iload_n 3, 1) := by decide +kernel
theorem dL_law_440 : decode cL_law 440 = .ok (.iconst 3, 1) := by decide +kernel
theorem dL_law_441 : decode cL_law 441 = .ok (.iadd, 1) := by decide +kernel
theorem dL_law_442 : decode cL_law 442 = .ok (.iaload, 1) := by decide +kernel
theorem dL_law_443 : decode cL_law 443 = .ok (.ifCond .eq 7, 3) := by decide +kernel
theorem dL_law_446 : decode cL_law 446 = .ok (.iconst 1, 1) := by decide +kernel
theorem dL_law_447 : decode cL_law 447 = .ok (.goto 4, 3) := by decide +kernel
theorem dL_law_450 : decode cL_law 450 = .ok (.iconst 0, 1) := by decide +kernel
theorem dL_law_451 : decode cL_law 451 = .ok (.invokevirtual 68, 3) := by decide +kernel
theorem dL_law_454 : decode cL_law 454 = .ok (.if_icmp .eq 124, 3) := by decide +kernel
theorem dL_law_457 : decode cL_law 457 = .ok (.iconst 0, 1) := by decide +kernel
theorem dL_law_458 : decode cL_law 458 = .ok (.ireturn, 1) := by decide +kernel
theorem dL_law_459 : decode cL_law 459 = .ok (.aload_n 1, 1) := by decide +kernel
theorem dL_law_460 : decode cL_law 460 = .ok (.invokevirtual 69, 3) := by decide +kernel
theorem dL_law_463 : decode cL_law 463 = .ok (.aload_n 2, 1) := by decide +kernel
theorem dL_law_464 : decode cL_law 464 = .ok (.invokevirtual 72, 3) := by decide +kernel
theorem dL_law_467 : decode cL_law 467 = .ok (.if_icmp .eq 111, 3) := by decide +kernel
theorem dL_law_470 : decode cL_law 470 = .ok (.iconst 0, 1) := by decide +kernel
theorem dL_law_471 : decode cL_law 471 = .ok (.ireturn, 1) := by decide +kernel
theorem dL_law_472 : decode cL_law 472 = .ok (.aload_n 1, 1) := by decide +kernel
theorem dL_law_473 : decode cL_law 473 = .ok (.aload_n 0, 1) := by decide +kernel
theorem dL_law_474 : decode cL_law 474 = .ok (.iload_n 3, 1) := by decide +kernel
theorem dL_law_475 : decode cL_law 475 = .ok (.iconst 1, 1) := by decide +kernel
theorem dL_law_476 : decode cL_law 476 = .ok (.iadd, 1) := by decide +kernel
theorem dL_law_477 : decode cL_law 477 = .ok (.iaload, 1) := by decide +kernel
theorem dL_law_478 : decode cL_law 478 = .ok (.aload_n 0, 1) := by decide +kernel
theorem dL_law_479 : decode cL_law 479 = .ok (.iload_n 3, 1) := by decide +kernel
theorem dL_law_480 : decode cL_law 480 = .ok (.iconst 2, 1) := by decide +kernel
theorem dL_law_481 : decode cL_law 481 = .ok (.iadd, 1) := by decide +kernel
theorem dL_law_482 : decode cL_law 482 = .ok (.iaload, 1) := by decide +kernel
theorem dL_law_483 : decode cL_law 483 = .ok (.aload_n 0, 1) := by decide +kernel
theorem dL_law_484 : decode cL_law 484 = .ok (.iload_n 3, 1) := by decide +kernel
theorem dL_law_485 : decode cL_law 485 = .ok (.iconst 3, 1) := by decide +kernel
theorem dL_law_486 : decode cL_law 486 = .ok (.iadd, 1) := by decide +kernel
theorem dL_law_487 : decode cL_law 487 = .ok (.iaload, 1) := by decide +kernel
theorem dL_law_488 : decode cL_law 488 = .ok (.invokevirtual 73, 3) := by decide +kernel
theorem dL_law_491 : decode cL_law 491 = .ok (.aload_n 2, 1) := by decide +kernel
theorem dL_law_492 : decode cL_law 492 = .ok (.aload_n 0, 1) := by decide +kernel
theorem dL_law_493 : decode cL_law 493 = .ok (.iload_n 3, 1) := by decide +kernel
theorem dL_law_494 : decode cL_law 494 = .ok (.iconst 1, 1) := by decide +kernel
theorem dL_law_495 : decode cL_law 495 = .ok (.iadd, 1) := by decide +kernel
theorem dL_law_496 : decode cL_law 496 = .ok (.iaload, 1) := by decide +kernel
theorem dL_law_497 : decode cL_law 497 = .ok (.aload_n 0, 1) := by decide +kernel
theorem dL_law_498 : decode cL_law 498 = .ok (.iload_n 3, 1) := by decide +kernel
theorem dL_law_499 : decode cL_law 499 = .ok (.iconst 2, 1) := by decide +kernel
theorem dL_law_500 : decode cL_law 500 = .ok (.iadd, 1) := by decide +kernel
theorem dL_law_501 : decode cL_law 501 = .ok (.iaload, 1) := by decide +kernel
theorem dL_law_502 : decode cL_law 502 = .ok (.aload_n 0, 1) := by decide +kernel
theorem dL_law_503 : decode cL_law 503 = .ok (.iload_n 3, 1) := by decide +kernel
theorem dL_law_504 : decode cL_law 504 = .ok (.iconst 3, 1) := by decide +kernel
theorem dL_law_505 : decode cL_law 505 = .ok (.iadd, 1) := by decide +kernel
theorem dL_law_506 : decode cL_law 506 = .ok (.iaload, 1) := by decide +kernel
theorem dL_law_507 : decode cL_law 507 = .ok (.invokevirtual 77, 3) := by decide +kernel
theorem dL_law_510 : decode cL_law 510 = .ok (.if_icmp .eq 68, 3) := by decide +kernel
theorem dL_law_513 : decode cL_law 513 = .ok (.iconst 0, 1) := by decide +kernel
theorem dL_law_514 : decode cL_law 514 = .ok (.ireturn, 1) := by decide +kernel
theorem dL_law_515 : decode cL_law 515 = .ok (.aload_n 1, 1) := by decide +kernel
theorem dL_law_516 : decode cL_law 516 = .ok (.invokevirtual 78, 3) := by decide +kernel
theorem dL_law_519 : decode cL_law 519 = .ok (.aload_n 2, 1) := by decide +kernel
theorem dL_law_520 : decode cL_law 520 = .ok (.invokevirtual 81, 3) := by decide +kernel
theorem dL_law_523 : decode cL_law 523 = .ok (.if_icmp .eq 55, 3) := by decide +kernel
theorem dL_law_526 : decode cL_law 526 = .ok (.iconst 0, 1) := by decide +kernel
theorem dL_law_527 : decode cL_law 527 = .ok (.ireturn, 1) := by decide +kernel
theorem dL_law_528 : decode cL_law 528 = .ok (.aload_n 1, 1) := by decide +kernel
theorem dL_law_529 : decode cL_law 529 = .ok (.invokevirtual 82, 3) := by decide +kernel
theorem dL_law_532 : decode cL_law 532 = .ok (.aload_n 2, 1) := by decide +kernel
theorem dL_law_533 : decode cL_law 533 = .ok (.invokevirtual 85, 3) := by decide +kernel
theorem dL_law_536 : decode cL_law 536 = .ok (.if_icmp .eq 42, 3) := by decide +kernel
theorem dL_law_539 : decode cL_law 539 = .ok (.iconst 0, 1) := by decide +kernel
theorem dL_law_540 : decode cL_law 540 = .ok (.ireturn, 1) := by decide +kernel
theorem dL_law_541 : decode cL_law 541 = .ok (.aload_n 1, 1) := by decide +kernel
theorem dL_law_542 : decode cL_law 542 = .ok (.aload_n 0, 1) := by decide +kernel
theorem dL_law_543 : decode cL_law 543 = .ok (.iload_n 3, 1) := by decide +kernel
theorem dL_law_544 : decode cL_law 544 = .ok (.iconst 1, 1) := by decide +kernel
theorem dL_law_545 : decode cL_law 545 = .ok (.iadd, 1) := by decide +kernel
theorem dL_law_546 : decode cL_law 546 = .ok (.iaload, 1) := by decide +kernel
theorem dL_law_547 : decode cL_law 547 = .ok (.invokevirtual 86, 3) := by decide +kernel
theorem dL_law_550 : decode cL_law 550 = .ok (.aload_n 2, 1) := by decide +kernel
theorem dL_law_551 : decode cL_law 551 = .ok (.aload_n 0, 1) := by decide +kernel
theorem dL_law_552 : decode cL_law 552 = .ok (.iload_n 3, 1) := by decide +kernel
theorem dL_law_553 : decode cL_law 553 = .ok (.iconst 1, 1) := by decide +kernel
theorem dL_law_554 : decode cL_law 554 = .ok (.iadd, 1) := by decide +kernel
theorem dL_law_555 : decode cL_law 555 = .ok (.iaload, 1) := by decide +kernel
theorem dL_law_556 : decode cL_law 556 = .ok (.invokevirtual 89, 3) := by decide +kernel
theorem dL_law_559 : decode cL_law 559 = .ok (.if_icmp .eq 19, 3) := by decide +kernel
theorem dL_law_562 : decode cL_law 562 = .ok (.iconst 0, 1) := by decide +kernel
theorem dL_law_563 : decode cL_law 563 = .ok (.ireturn, 1) := by decide +kernel
theorem dL_law_564 : decode cL_law 564 = .ok (.aload_n 1, 1) := by decide +kernel
theorem dL_law_565 : decode cL_law 565 = .ok (.invokevirtual 90, 3) := by decide +kernel
theorem dL_law_568 : decode cL_law 568 = .ok (.aload_n 2, 1) := by decide +kernel
theorem dL_law_569 : decode cL_law 569 = .ok (.invokevirtual 94, 3) := by decide +kernel
theorem dL_law_572 : decode cL_law 572 = .ok (.lcmp, 1) := by decide +kernel
theorem dL_law_573 : decode cL_law 573 = .ok (.ifCond .eq 5, 3) := by decide +kernel
theorem dL_law_576 : decode cL_law 576 = .ok (.iconst 0, 1) := by decide +kernel
theorem dL_law_577 : decode cL_law 577 = .ok (.ireturn, 1) := by decide +kernel
theorem dL_law_578 : decode cL_law 578 = .ok (.iinc 3 4, 3) := by decide +kernel
theorem dL_law_581 : decode cL_law 581 = .ok (.goto (-563), 3) := by decide +kernel
theorem dL_law_584 : decode cL_law 584 = .ok (.iconst 1, 1) := by decide +kernel
theorem dL_law_585 : decode cL_law 585 = .ok (.ireturn, 1) := by decide +kernel
end
section
/-! ===== base: the fixed part of a walk, contracts, calls ===== -/
section Base
def nwF : List (String × Nat × String × String × String × String) := [("RiversQueue", 228, "RiversQueue$Page", "letters", "[I", "RiversQueue"), ("RiversQueue", 213, "RiversQueue$Page", "size", "I", "RiversQueue"), ("RiversQueue", 108, "RiversQueue$Coast", "kinds", "[I", "RiversQueue"), ("RiversQueue$Shore", 83, "RiversQueue$Coast", "kinds", "[I", "RiversQueue"), ("RiversQueue", 115, "RiversQueue$Coast", "flows", "[I", "RiversQueue"), ("RiversQueue$Shore", 53, "RiversQueue$Coast", "flows", "[I", "RiversQueue"), ("RiversQueue$Shore", 29, "RiversQueue$Coast", "rivers", "I", "RiversQueue"), ("RiversQueue$BestOrder", 34, "RiversQueue$Coast", "rivers", "I", "RiversQueue"), ("RiversQueue", 101, "RiversQueue$Coast", "rivers", "I", "RiversQueue"), ("RiversQueue$Forecast", 83, "RiversQueue$Coast", "rivers", "I", "RiversQueue"), ("RiversQueue$Shore", 86, "RiversQueue$Coast", "bar", "I", "RiversQueue"), ("RiversQueue", 204, "RiversQueue$Coast", "bar", "I", "RiversQueue"), ("RiversQueue", 112, "RiversQueue$Shore", "water", "[I", "RiversQueue"), ("RiversQueue$Forecast", 97, "RiversQueue$Shore", "water", "[I", "RiversQueue"), ("RiversQueue", 121, "RiversQueue$Shore", "took", "[I", "RiversQueue"), ("RiversQueue$BestOrder", 65, "RiversQueue$Shore", "row", "[I", "RiversQueue"), ("RiversQueue", 137, "RiversQueue$Shore", "row", "[I", "RiversQueue"), ("RiversQueue", 201, "RiversQueue$Shore", "hours", "I", "RiversQueue"), ("RiversQueue$Forecast", 53, "RiversQueue$Shore", "takenOf", "I", "RiversQueue"), ("RiversQueue", 210, "RiversQueue$Sightings", "size", "I", "RiversQueue"), ("RiversQueue$Forecast", 77, "RiversQueue$Draws", "seed", "I", "RiversQueue"), ("RiversQueue", 189, "RiversQueue$Draws", "seed", "I", "RiversQueue"), ("RiversQueue", 179, "RiversQueue$Forecast", "trial", "LRiversQueue$Shore;", "RiversQueue"), ("RiversQueue", 185, "RiversQueue$Forecast", "draws", "LRiversQueue$Draws;", "RiversQueue"), ("RiversQueue", 168, "RiversQueue$BestOrder", "found", "[I", "RiversQueue"), ("RiversQueue", 165, "RiversQueue$BestOrder", "least", "I", "RiversQueue")]
def nwM : List (String × Nat × MethodName × String) := [("RiversQueue", 9, yX4_init, "RiversQueue"), ("RiversQueue", 18, yX1_init, "RiversQueue"), ("RiversQueue", 34, yX6_init, "RiversQueue"), ("RiversQueue$Forecast", 11, yX2_init, "RiversQueue"), ("RiversQueue$Page", 45, yX7_within, "RiversQueue")]
def NW (U : State) : Prop := (∀ q ∈ nwF, va_Nw (.fieldLinkNest q.1 q.2.1 q.2.2.1 q.2.2.2.1 q.2.2.2.2.1 q.2.2.2.2.2) U) ∧ (∀ q ∈ nwM, va_Nw (.methodLinkNest q.1 q.2.1 q.2.2.1 q.2.2.2) U)
theorem NW.warm {s U : State} (hW : s.WarmedH U.vm) (h : NW s) : NW U := ⟨fun q hq => va_Nw.warmF hW (h.1 q hq), fun q hq => va_Nw.warmM hW (h.2 q hq)⟩
theorem NW.same {u U : State} (hv : u.vm = U.vm) (h : NW u) : NW U := ⟨fun q hq => va_Nw.same rfl hv (h.1 q hq), fun q hq => va_Nw.same rfl hv (h.2 q hq)⟩
/-- the one String constant, and String's own static -/
def SX (kS vS : Nat) (A : Nat → Prop) (U : State) (H : Heap) : Prop := vk_R RX4 34 "rfbot" kS U ∧ vk_S 1 [5] [[114, 102, 98, 111, 116]] (fun _ => kS) (fun _ => vS) A U H ∧ va_Z "java/lang/String" "COMPACT_STRINGS" "Z" (.int 1) A U H
theorem SX.call {kS vS : Nat} {A B : Nat → Prop} {s U : State} {H : Heap} {locs : List Loc} (h : SX kS vS A s s.heap) (hS : va_S A s.heap H locs) (hAB : ∀ q, B q → A q) (hU : U.heap = H) (hW : s.WarmedH U.vm) : SX kS vS B U U.heap := by
  obtain ⟨h1, h2, h3⟩ := h
  have kp : ∀ a : Nat, a < s.heap.size → ¬ A a → U.heap[a]? = s.heap[a]? := fun a g1 g2 => by rw [hU]; exact hS.2.1 a g1 g2
  exact ⟨h1.warm hW, ((h2.moved hW.alike).kept kp).narrow hAB, ((h3.moved hW.alike).kept kp).narrow hAB⟩
theorem SX.calling {kS vS : Nat} {A : Nat → Prop} {U V : State} (hv : V.vm = U.vm) (hh : V.heap = U.heap) (h : SX kS vS A U U.heap) : SX kS vS A V V.heap := by
  obtain ⟨h1, h2, h3⟩ := h
  rw [hh]
  have e : U.vm.Alike V.vm := by rw [hv]; exact Vm.Alike.refl U.vm
  exact ⟨h1.same hv, h2.moved e, h3.moved e⟩
abbrev TY (cI cZ : ClassId) : List (ClassId × FieldType) := [(cI, .int), (cZ, .boolean)]
def HS (D : va_G) (A : Nat → Prop) (s : State) (H : Heap) (locs : List Loc) (ws : va_W) : Prop := va_P D vwCl ws H ∧ va_D A ws ∧ va_S A s.heap H locs
def CX (p : Program) (s : State) (m : MethodId) (args : Array Value) (c : Code) (cc : ByteArray) (nL : Nat) (own : String) (D : va_G) (cI cZ : ClassId) (kS vS : Nat) (A : Nat → Prop) : Prop :=
  CallFix p m c cc nL s args wsL_law own ∧ va_K D vwCl (TY cI cZ) s ∧ NW s ∧ SX kS vS A s s.heap ∧ ∀ q, s.heap.size ≤ q → A q
def Pr (D : va_G) (cI cZ : ClassId) (kS vS : Nat) (ws : va_W) (sz : Nat) (U : State) : Prop := U.heap.size = sz ∧ va_P D vwCl ws U.heap ∧ va_K D vwCl (TY cI cZ) U ∧ va_D (fun _ => True) ws ∧ NW U ∧ SX kS vS (va_A ws sz) U U.heap
def Po (D : va_G) (ws : va_W) (A : Nat → Prop) (t : State) : Prop := va_P D vwCl ws t.heap ∧ va_D A ws
abbrev rmO (fr lo mc ms : Nat) : Room := { frames := fr, cells := mc, slots := ms, locals := lo }
/-- a contract whose answer is an int or a boolean -/
def CI {S : Type} (l : Launch) (y : MethodName) (cc : ByteArray) (nL : Nat) (ty : FieldType) (D : va_G) (cI cZ : ClassId) (kS vS : Nat) (fr lo mc ms : Nat) (as : List Value) (ws : va_W) (post : Int32 → S → Prop) (w1 : S → va_W) : Prop :=
  ∀ sz : Nat, Met l y (.code y cc nL (some ty) :: wsL_law) (rmO fr lo mc ms) (va_Pc as (Pr D cI cZ kS vS ws sz)) (va_Qi post (fun u t => Po D (w1 u) (va_A ws sz) t) (va_A ws sz)) mc ms (va_A ws sz)
def CL {S : Type} (l : Launch) (y : MethodName) (cc : ByteArray) (nL : Nat) (D : va_G) (cI cZ : ClassId) (kS vS : Nat) (fr lo mc ms : Nat) (as : List Value) (ws : va_W) (post : Int64 → S → Prop) (w1 : S → va_W) : Prop :=
  ∀ sz : Nat, Met l y (.code y cc nL (some .long) :: wsL_law) (rmO fr lo mc ms) (va_Pc as (Pr D cI cZ kS vS ws sz)) (va_Ql post (fun u t => Po D (w1 u) (va_A ws sz) t) (va_A ws sz)) mc ms (va_A ws sz)
def CV {S : Type} (l : Launch) (y : MethodName) (cc : ByteArray) (nL : Nat) (D : va_G) (cI cZ : ClassId) (kS vS : Nat) (fr lo mc ms : Nat) (as : List Value) (ws : va_W) (post : S → Prop) (w1 : S → va_W) : Prop :=
  ∀ sz : Nat, Met l y (.code y cc nL none :: wsL_law) (rmO fr lo mc ms) (va_Pc as (Pr D cI cZ kS vS ws sz)) (va_Qv post (fun u t => Po D (w1 u) (va_A ws sz) t) (va_A ws sz)) mc ms (va_A ws sz)
theorem Pr.blind {D : va_G} {cI cZ : ClassId} {kS vS : Nat} {ws : va_W} {sz : Nat} {as : List Value} : FrameBlind (va_Pc as (Pr D cI cZ kS vS ws sz)) := by
  intro a U g mk q
  obtain ⟨q0, q1, qP, qK, qD, qN, qX⟩ := q
  exact ⟨q0, q1, qP, va_K.moved (u := U) (U := U.calling g mk a) (Vm.Alike.refl U.vm) qK, qD, NW.same (u := U) (U := U.calling g mk a) rfl qN, SX.calling (U := U) (V := U.calling g mk a) rfl rfl qX⟩
section Intro
variable {S : Type} {l : Launch} {y : MethodName} {cc : ByteArray} {nL : Nat} {ty : FieldType} {D : va_G} {cI cZ : ClassId} {kS vS : Nat} {fr lo mc ms : Nat} {as : List Value} {ws : va_W}
theorem CI_intro {post : Int32 → S → Prop} {w1 : S → va_W} (hy : plainName y.cls = true) (hla : (lg_sl as).length ≤ nL)
    (body : ∀ (p : Program) (e : Env) (s : State) (m : MethodId) (args : Array Value) (below : List Frame) (meth : Method) (c : Code) (A : Nat → Prop) (Q : State → Prop) (ls : Array Slot), CX p s m args c cc nL y.cls D cI cZ kS vS A → HS D A s s.heap [] ws →
      (∀ {pc : Nat} {ls : Array Slot} {H : Heap} {locs : List Loc} {r : Int32} (u : S), decode cc pc = .ok (.ireturn, 1) → HS D A s H locs (w1 u) → narrow ty (.int r) = .int r → post r u → W p l e (rmO fr lo mc ms) s m args below meth c H locs mc ms Q (F0 m pc ls [.int r])) →
      lv_has ls nL (lv_args 0 as) → W p l e (rmO fr lo mc ms) s m args below meth c s.heap [] 0 0 Q (F0 m 0 ls [])) :
    CI l y cc nL ty D cI cZ kS vS fr lo mc ms as ws post w1 := by
  intro sz
  refine Met.ofW (cc := cc) (maxL := nL) (ret := some ty) hy rfl ?_
  intro p e s m args below meth c s₁ B hml hv
  obtain ⟨rfl, hsz, hP, hK, hD0, hN, hX⟩ := hv
  subst hsz
  have hts := atoms_spec (ws := Cond.code y cc nL (some ty) :: wsL_law) B.pre
  have hlk := B.notSynchronized
  rw [lg_entry_eq]
  exact body p e s m _ below meth c (va_A ws s.heap.size) _ _ ⟨⟨B.exec, B.bytes, hml, findClass_of_methodNamed B.named, fun w h => hts w (List.mem_cons_of_mem _ h)⟩, hK, hN, hX, fun q h => Or.inr h⟩ ⟨hP, hD0.self, va_S.rf⟩
    (fun {pc ls H locs r} u hdg h hn hp => W.zret B.exec B.bytes B.returns hn (fun t ht hW => ⟨⟨r, u, rfl, hp, ⟨by rw [ht]; exact h.1, h.2.1⟩⟩, h.2.2.F ht⟩) h.2.2.2.2 hdg) (lv_entry as hla)
theorem CL_intro {post : Int64 → S → Prop} {w1 : S → va_W} (hy : plainName y.cls = true) (hla : (lg_sl as).length ≤ nL)
    (body : ∀ (p : Program) (e : Env) (s : State) (m : MethodId) (args : Array Value) (below : List Frame) (meth : Method) (c : Code) (A : Nat → Prop) (Q : State → Prop) (ls : Array Slot), CX p s m args c cc nL y.cls D cI cZ kS vS A → HS D A s s.heap [] ws →
      (∀ {pc : Nat} {ls : Array Slot} {H : Heap} {locs : List Loc} {r : Int64} (u : S), decode cc pc = .ok (.lreturn, 1) → HS D A s H locs (w1 u) → post r u → W p l e (rmO fr lo mc ms) s m args below meth c H locs mc ms Q (F0 m pc ls [.long r])) →
      lv_has ls nL (lv_args 0 as) → W p l e (rmO fr lo mc ms) s m args below meth c s.heap [] 0 0 Q (F0 m 0 ls [])) :
    CL l y cc nL D cI cZ kS vS fr lo mc ms as ws post w1 := by
  intro sz
  refine Met.ofW (cc := cc) (maxL := nL) (ret := some .long) hy rfl ?_
  intro p e s m args below meth c s₁ B hml hv
  obtain ⟨rfl, hsz, hP, hK, hD0, hN, hX⟩ := hv
  subst hsz
  have hts := atoms_spec (ws := Cond.code y cc nL (some .long) :: wsL_law) B.pre
  have hlk := B.notSynchronized
  rw [lg_entry_eq]
  exact body p e s m _ below meth c (va_A ws s.heap.size) _ _ ⟨⟨B.exec, B.bytes, hml, findClass_of_methodNamed B.named, fun w h => hts w (List.mem_cons_of_mem _ h)⟩, hK, hN, hX, fun q h => Or.inr h⟩ ⟨hP, hD0.self, va_S.rf⟩
    (fun {pc ls H locs r} u hdg h hp => W.lret B.exec B.bytes B.returns (fun t ht hW => ⟨⟨r, u, rfl, hp, ⟨by rw [ht]; exact h.1, h.2.1⟩⟩, h.2.2.F ht⟩) h.2.2.2.2 hdg) (lv_entry as hla)
theorem CV_intro {post : S → Prop} {w1 : S → va_W} (hy : plainName y.cls = true) (hla : (lg_sl as).length ≤ nL)
    (body : ∀ (p : Program) (e : Env) (s : State) (m : MethodId) (args : Array Value) (below : List Frame) (meth : Method) (c : Code) (A : Nat → Prop) (Q : State → Prop) (ls : Array Slot), CX p s m args c cc nL y.cls D cI cZ kS vS A → (meth.name = y.name) → HS D A s s.heap [] ws →
      (∀ {pc : Nat} {ls : Array Slot} {H : Heap} {locs : List Loc} (u : S), decode cc pc = .ok (.return_, 1) → HS D A s H locs (w1 u) → post u → W p l e (rmO fr lo mc ms) s m args below meth c H locs mc ms Q (F0 m pc ls [])) →
      lv_has ls nL (lv_args 0 as) → W p l e (rmO fr lo mc ms) s m args below meth c s.heap [] 0 0 Q (F0 m 0 ls [])) :
    CV l y cc nL D cI cZ kS vS fr lo mc ms as ws post w1 := by
  intro sz
  refine Met.ofW (cc := cc) (maxL := nL) (ret := none) hy rfl ?_
  intro p e s m args below meth c s₁ B hml hv
  obtain ⟨rfl, hsz, hP, hK, hD0, hN, hX⟩ := hv
  subst hsz
  have hts := atoms_spec (ws := Cond.code y cc nL none :: wsL_law) B.pre
  have hlk := B.notSynchronized
  rw [lg_entry_eq]
  exact body p e s m _ below meth c (va_A ws s.heap.size) _ _ ⟨⟨B.exec, B.bytes, hml, findClass_of_methodNamed B.named, fun w h => hts w (List.mem_cons_of_mem _ h)⟩, hK, hN, hX, fun q h => Or.inr h⟩ (name_of_methodNamed B.named B.method).1 ⟨hP, hD0.self, va_S.rf⟩
    (fun {pc ls H locs} u hdg h hp => W.vret B.exec B.bytes B.returns (fun t ht hW => ⟨⟨u, rfl, hp, ⟨by rw [ht]; exact h.1, h.2.1⟩⟩, h.2.2.F ht⟩) h.2.2.2.2 hdg) (lv_entry as hla)
end Intro
end Base
end
section
/-! ===== rows over the fixed part of a walk ===== -/
section Rows
theorem mapFilter {α β : Type} {is : List α} {f : α → Option β} {l : List β} (h : is.map f = l.map some) : is.filterMap f = l := by
  induction is generalizing l with
  | nil =>
    cases l with
    | nil => rfl
    | cons b l => cases h
  | cons i is ih =>
    cases l with
    | nil => cases h
    | cons b l =>
      rw [List.map_cons, List.map_cons] at h
      injection h with h1 h2
      rw [List.filterMap_cons, h1]
      exact congrArg (fun z => b :: z) (ih h2)
theorem cell_congr {cA : ClassId} {n : Nat} {f g : Nat → Int32} (h : ∀ j, j < n → f j = g j) : vp_cell cA (n, .inl f) = vp_cell cA (n, .inl g) := by
  have e : (Array.ofFn (n := n) fun j => Value.int (f j.val)) = Array.ofFn (n := n) fun j => Value.int (g j.val) := by
    congr 1
    funext j
    rw [h j.val j.isLt]
  rw [vp_cell_i, vp_cell_i]
  show ({ cls := cA, slots := _, vm := .none } : Cell) = { cls := cA, slots := _, vm := .none }
  rw [e]
/-- a class as the tables have it -/
def FK (Cn : String) (T : u_T) (N ci : Nat) (ty : Nat → FieldType) : Prop := vwCl[ci]? = some (Cn, T, N) ∧ (∀ w ∈ u_ws Cn T N, w ∈ wsL_law) ∧ (∀ k, k < N → parseFieldDescriptor (T k).2.2.1 = some (ty k)) ∧ (∀ a, a < N → ∀ b, b < N → a ≠ b → (T a).2.1 ≠ (T b).2.1)
theorem fk0 : FK RX0 TX0 6 0 tyX0 := ⟨rfl, inlX0, tyX0_ok, nmX0⟩
theorem fk1 : FK RX1 TX1 4 1 tyX1 := ⟨rfl, inlX1, tyX1_ok, nmX1⟩
theorem fk2 : FK RX2 TX2 1 2 tyX2 := ⟨rfl, inlX2, tyX2_ok, nmX2⟩
theorem fk3 : FK RX3 TX3 7 3 tyX3 := ⟨rfl, inlX3, tyX3_ok, nmX3⟩
theorem fk4 : FK RX4 TX4 2 4 tyX4 := ⟨rfl, inlX4, tyX4_ok, nmX4⟩
theorem fk5 : FK RX5 TX5 6 5 tyX5 := ⟨rfl, inlX5, tyX5_ok, nmX5⟩
theorem fk6 : FK RX6 TX6 4 6 tyX6 := ⟨rfl, inlX6, tyX6_ok, nmX6⟩
theorem fk7 : FK RX7 TX7 11 7 tyX7 := ⟨rfl, inlX7, tyX7_ok, nmX7⟩
theorem fk8 : FK RX8 TX8 34 8 tyX8 := ⟨rfl, inlX8, tyX8_ok, nmX8⟩
theorem HS.arr {D : va_G} {A : Nat → Prop} {s : State} {H : Heap} {locs : List Loc} {ws ws' : va_W} (h : HS D A s H locs ws) (q0 : Nat) {a : Nat} {cA : ClassId} {n : Nat} {f g : Nat → Int32} (he : ws[q0]? = some (a, .inl (cA, n, .inl f))) (hfg : ∀ j, j < n → f j = g j) (hw : ws.set q0 (a, .inl (cA, n, .inl g)) = ws') : HS D A s H locs ws' := by
  subst hw
  refine ⟨h.1.set h.2.1 he ?_ (fun _ _ => rfl), h.2.1.set he, h.2.2⟩
  show H[a]? = some (vp_cell cA (n, .inl g))
  rw [← cell_congr hfg]
  exact h.1 q0 _ he
/-- the same world, its cells in another order, or fewer -/
theorem HS.sub {D : va_G} {A : Nat → Prop} {s : State} {H : Heap} {locs : List Loc} {ws ws' : va_W} (h : HS D A s H locs ws) (is : List Nat) (hn : va_nd is = true) (hs : is.map (fun i => ws[i]?) = ws'.map some) : HS D A s H locs ws' :=
  ⟨h.1.sub is (mapFilter hs), h.2.1.sub is hn hs, h.2.2⟩
variable {p : Program} {l : Launch} {e : Env} {R : Room} {s : State} {m : MethodId} {args : Array Value} {below : List Frame} {meth : Method} {c : Code} {H : Heap} {locs : List Loc} {cells slots : Nat} {Q : State → Prop}
variable {cc : ByteArray} {nL pc : Nat} {own : String} {D : va_G} {cI cZ : ClassId} {kS vS : Nat} {A : Nat → Prop} {ls : Array Slot} {rest : List Value} {ws ws' : va_W} {a : Nat} {lvs : List (Nat × Value)}
theorem r_get (C : CX p s m args c cc nL own D cI cZ kS vS A) (h : HS D A s H locs ws) {index ci : Nat} {Cn : String} {T : u_T} {N : Nat} {ty : Nat → FieldType} (F : FK Cn T N ci ty) (q0 k : Nat) {fs : List Value} {v : Value} (he : ws[q0]? = some (a, .inr (ci, fs))) (hk : k < N) (hm : Cond.fieldLink own index (T k).1 (T k).2.1 (T k).2.2.1 ∈ wsL_law) (hv : fs[k]? = some v) (hdg : decode cc pc = .ok (.getfield index, 3))
    (kk : W p l e R s m args below meth c H locs cells slots Q (F0 m (pc + 3) ls (v :: rest))) : W p l e R s m args below meth c H locs cells slots Q (F0 m pc ls (.ref a :: rest)) :=
  va_get C.1.1 C.1.2.1 C.1.2.2.2.2 F.2.1 C.1.2.2.2.1 C.2.1 h.1 q0 he F.1 k hk (C.1.2.2.2.2 _ hm) (fun _ z => z) hv hdg kk
theorem r_getN (C : CX p s m args c cc nL own D cI cZ kS vS A) (h : HS D A s H locs ws) {index ci : Nat} {Cn host : String} {T : u_T} {N : Nat} {ty : Nat → FieldType} (F : FK Cn T N ci ty) (q0 k nn : Nat) {fs : List Value} {v : Value} (he : ws[q0]? = some (a, .inr (ci, fs))) (hk : k < N) (hm : nwF[nn]? = some (own, index, (T k).1, (T k).2.1, (T k).2.2.1, host)) (hv : fs[k]? = some v) (hdg : decode cc pc = .ok (.getfield index, 3))
    (kk : W p l e R s m args below meth c H locs cells slots Q (F0 m (pc + 3) ls (v :: rest))) : W p l e R s m args below meth c H locs cells slots Q (F0 m pc ls (.ref a :: rest)) :=
  va_getN C.1.1 C.1.2.1 C.1.2.2.2.2 F.2.1 C.1.2.2.2.1 C.2.1 h.1 q0 he F.1 k hk (va_Nw.use rfl (C.2.2.1.1 _ (List.mem_of_getElem? hm))) (fun _ z => z) hv hdg kk
theorem r_put (C : CX p s m args c cc nL own D cI cZ kS vS A) (h : HS D A s H locs ws) {index ci : Nat} {Cn : String} {T : u_T} {N : Nat} {ty : Nat → FieldType} (F : FK Cn T N ci ty) (q0 k : Nat) {fs : List Value} {v : Value} (he : ws[q0]? = some (a, .inr (ci, fs))) (hk : k < N) (hm : Cond.fieldLink own index (T k).1 (T k).2.1 (T k).2.2.1 ∈ wsL_law) (hfin : (T k).2.2.2 = false) (hn : narrow (ty k) v = v) (hfit : fits (ty k) v = true) (hl : k < fs.length) (hw : ws.set q0 (a, .inr (ci, fs.set k v)) = ws') (hdg : decode cc pc = .ok (.putfield index, 3))
    (kk : ∀ (H : Heap) (locs : List Loc), HS D A s H locs ws' → W p l e R s m args below meth c H locs cells slots Q (F0 m (pc + 3) ls rest)) : W p l e R s m args below meth c H locs cells slots Q (F0 m pc ls (v :: .ref a :: rest)) := by
  subst hw
  exact va_put C.1.1 C.1.2.1 C.1.2.2.2.2 F.2.1 ty F.2.2.1 F.2.2.2 C.1.2.2.2.1 C.2.1 h.1 h.2.1 h.2.2 q0 he F.1 k hk (C.1.2.2.2.2 _ hm) (fun _ z => z) hfin (F.2.2.1 k hk) hn hfit hl hdg (fun H1 l1 g1 g2 g3 => kk H1 l1 ⟨g1, g2, g3⟩)
theorem r_putN (C : CX p s m args c cc nL own D cI cZ kS vS A) (h : HS D A s H locs ws) {index ci : Nat} {Cn host : String} {T : u_T} {N : Nat} {ty : Nat → FieldType} (F : FK Cn T N ci ty) (q0 k nn : Nat) {fs : List Value} {v : Value} (he : ws[q0]? = some (a, .inr (ci, fs))) (hk : k < N) (hm : nwF[nn]? = some (own, index, (T k).1, (T k).2.1, (T k).2.2.1, host)) (hfin : (T k).2.2.2 = false) (hn : narrow (ty k) v = v) (hfit : fits (ty k) v = true) (hl : k < fs.length) (hw : ws.set q0 (a, .inr (ci, fs.set k v)) = ws') (hdg : decode cc pc = .ok (.putfield index, 3))
    (kk : ∀ (H : Heap) (locs : List Loc), HS D A s H locs ws' → W p l e R s m args below meth c H locs cells slots Q (F0 m (pc + 3) ls rest)) : W p l e R s m args below meth c H locs cells slots Q (F0 m pc ls (v :: .ref a :: rest)) := by
  subst hw
  exact va_putN C.1.1 C.1.2.1 C.1.2.2.2.2 F.2.1 ty F.2.2.1 F.2.2.2 C.1.2.2.2.1 C.2.1 h.1 h.2.1 h.2.2 q0 he F.1 k hk (va_Nw.use rfl (C.2.2.1.1 _ (List.mem_of_getElem? hm))) (fun _ z => z) hfin (F.2.2.1 k hk) hn hfit hl hdg (fun H1 l1 g1 g2 g3 => kk H1 l1 ⟨g1, g2, g3⟩)
theorem r_putF (C : CX p s m args c cc nL own D cI cZ kS vS A) (hin : meth.name = "<init>") (h : HS D A s H locs ws) {index ci : Nat} {Cn : String} {T : u_T} {N : Nat} {ty : Nat → FieldType} (F : FK Cn T N ci ty) (q0 k : Nat) {fs : List Value} {v : Value} (he : ws[q0]? = some (a, .inr (ci, fs))) (hk : k < N) (hm : Cond.fieldLink own index (T k).1 (T k).2.1 (T k).2.2.1 ∈ wsL_law) (hfin : (T k).2.2.2 = true) (hdecl : (T k).1 = own) (hn : narrow (ty k) v = v) (hfit : fits (ty k) v = true) (hl : k < fs.length) (hw : ws.set q0 (a, .inr (ci, fs.set k v)) = ws') (hdg : decode cc pc = .ok (.putfield index, 3))
    (kk : ∀ (H : Heap) (locs : List Loc), HS D A s H locs ws' → W p l e R s m args below meth c H locs cells slots Q (F0 m (pc + 3) ls rest)) : W p l e R s m args below meth c H locs cells slots Q (F0 m pc ls (v :: .ref a :: rest)) := by
  subst hw
  exact va_putF C.1.1 C.1.2.1 C.1.2.2.2.2 F.2.1 ty F.2.2.1 F.2.2.2 C.1.2.2.2.1 C.2.1 h.1 h.2.1 h.2.2 q0 he F.1 k hk (C.1.2.2.2.2 _ hm) (fun _ z => z) hfin hin hdecl (F.2.2.1 k hk) hn hfit hl hdg (fun H1 l1 g1 g2 g3 => kk H1 l1 ⟨g1, g2, g3⟩)
theorem r_ld (C : CX p s m args c cc nL own D cI cZ kS vS A) (h : HS D A s H locs ws) (q0 : Nat) {n : Nat} {f : Nat → Int32} (he : ws[q0]? = some (a, .inl (cI, n, .inl f))) {i : Int32} {x : Int32} (k : Nat) (hi : i = nI k) (hk : k < n) (hn : n < 100) (hx : f k = x) (hdg : decode cc pc = .ok (.iaload, 1))
    (kk : W p l e R s m args below meth c H locs cells slots Q (F0 m (pc + 1) ls (.int x :: rest))) : W p l e R s m args below meth c H locs cells slots Q (F0 m pc ls (.int i :: .ref a :: rest)) := by
  subst hi
  subst hx
  refine va_iald C.1.1 C.1.2.1 C.2.1 h.1 q0 0 he rfl (vp_in_nI hk (by omega)) hdg ?_
  rw [nI_clamp (by omega)]
  exact kk
theorem r_zld (C : CX p s m args c cc nL own D cI cZ kS vS A) (h : HS D A s H locs ws) (q0 : Nat) {n : Nat} {f : Nat → Int32} (he : ws[q0]? = some (a, .inl (cZ, n, .inl f))) {i : Int32} {x : Int32} (k : Nat) (hi : i = nI k) (hk : k < n) (hn : n < 100) (hx : f k = x) (hdg : decode cc pc = .ok (.baload, 1))
    (kk : W p l e R s m args below meth c H locs cells slots Q (F0 m (pc + 1) ls (.int x :: rest))) : W p l e R s m args below meth c H locs cells slots Q (F0 m pc ls (.int i :: .ref a :: rest)) := by
  subst hi
  subst hx
  refine va_zald C.1.1 C.1.2.1 C.2.1 h.1 q0 1 he rfl (vp_in_nI hk (by omega)) hdg ?_
  rw [nI_clamp (by omega)]
  exact kk
theorem r_st (C : CX p s m args c cc nL own D cI cZ kS vS A) (h : HS D A s H locs ws) (q0 : Nat) {n : Nat} {f g : Nat → Int32} (he : ws[q0]? = some (a, .inl (cI, n, .inl f))) {i x : Int32} (k : Nat) (hi : i = nI k) (hk : k < n) (hn : n < 100) (hg : ∀ j, j < n → upd f k x j = g j) (hw : ws.set q0 (a, .inl (cI, n, .inl g)) = ws') (hdg : decode cc pc = .ok (.iastore, 1))
    (kk : ∀ (H : Heap) (locs : List Loc), HS D A s H locs ws' → W p l e R s m args below meth c H locs cells slots Q (F0 m (pc + 1) ls rest)) : W p l e R s m args below meth c H locs cells slots Q (F0 m pc ls (.int x :: .int i :: .ref a :: rest)) := by
  subst hi
  refine va_iast C.1.1 C.1.2.1 C.2.1 h.1 h.2.1 h.2.2 q0 0 he rfl (vp_in_nI hk (by omega)) hdg (fun H1 l1 g1 g2 g3 => ?_)
  rw [nI_clamp (by omega)] at g1 g2
  have hl : q0 < ws.length := (List.getElem?_eq_some_iff.mp he).1
  refine kk H1 l1 (HS.arr ⟨g1, g2, g3⟩ q0 (List.getElem?_set_self hl) hg ?_)
  rw [List.set_set]
  exact hw
theorem r_zst (C : CX p s m args c cc nL own D cI cZ kS vS A) (h : HS D A s H locs ws) (q0 : Nat) {n : Nat} {f g : Nat → Int32} (he : ws[q0]? = some (a, .inl (cZ, n, .inl f))) {i x : Int32} (k : Nat) (hi : i = nI k) (hk : k < n) (hn : n < 100) (hx : vp_nar .boolean x = x) (hg : ∀ j, j < n → upd f k x j = g j) (hw : ws.set q0 (a, .inl (cZ, n, .inl g)) = ws') (hdg : decode cc pc = .ok (.bastore, 1))
    (kk : ∀ (H : Heap) (locs : List Loc), HS D A s H locs ws' → W p l e R s m args below meth c H locs cells slots Q (F0 m (pc + 1) ls rest)) : W p l e R s m args below meth c H locs cells slots Q (F0 m pc ls (.int x :: .int i :: .ref a :: rest)) := by
  subst hi
  refine va_zast C.1.1 C.1.2.1 C.2.1 h.1 h.2.1 h.2.2 q0 1 he rfl (vp_in_nI hk (by omega)) hdg (fun H1 l1 g1 g2 g3 => ?_)
  rw [nI_clamp (by omega), hx] at g1 g2
  have hl : q0 < ws.length := (List.getElem?_eq_some_iff.mp he).1
  refine kk H1 l1 (HS.arr ⟨g1, g2, g3⟩ q0 (List.getElem?_set_self hl) hg ?_)
  rw [List.set_set]
  exact hw
theorem r_alen (C : CX p s m args c cc nL own D cI cZ kS vS A) (h : HS D A s H locs ws) (q0 : Nat) {n : Nat} {f : Nat → Int32} (he : ws[q0]? = some (a, .inl (cI, n, .inl f))) (hdg : decode cc pc = .ok (.arraylength, 1))
    (kk : W p l e R s m args below meth c H locs cells slots Q (F0 m (pc + 1) ls (.int (nI n) :: rest))) : W p l e R s m args below meth c H locs cells slots Q (F0 m pc ls (.ref a :: rest)) :=
  va_alen C.1.1 C.1.2.1 C.2.1 h.1 q0 0 he rfl rfl hdg kk
theorem r_copy (C : CX p s m args c cc nL own D cI cZ kS vS A) (h : HS D A s H locs ws) {index : Nat} (hm : Cond.methodLink own index arraycopyName ∈ wsL_law) (q0 q1 : Nat) {a0 n0 n1 : Nat} {f g f' : Nat → Int32} (he0 : ws[q0]? = some (a0, .inl (cI, n0, .inl f))) (he1 : ws[q1]? = some (a, .inl (cI, n1, .inl g))) {sp dp nn : Int32} (k : Nat) (hsp : sp = 0) (hdp : dp = 0) (hnn : nn = nI k) (hk0 : k ≤ n0) (hk1 : k ≤ n1) (hk : k < 100) (hg : ∀ j, j < n1 → va_cpy f g 0 0 k j = f' j) (hw : ws.set q1 (a, .inl (cI, n1, .inl f')) = ws')
    (hls : lv_has ls nL lvs) (hR : 1 ≤ R.frames ∧ (rest.map fun v => v.category).sum + 18 ≤ R.locals) (hdg : decode cc pc = .ok (.invokestatic index, 3))
    (kk : ∀ (H : Heap) (locs : List Loc), HS D A s H locs ws' → W p l e R s m args below meth c H locs cells slots Q (F0 m (pc + 3) ls rest)) : W p l e R s m args below meth c H locs cells slots Q (F0 m pc ls (.int nn :: .int dp :: .ref a :: .int sp :: .ref a0 :: rest)) := by
  subst hsp; subst hdp; subst hnn
  have z0 : (0 : Int32).toNatClampNeg = 0 := rfl
  refine va_copyi C.1.1 C.1.2.1 (C.1.2.2.1.trans hls.1.symm) C.1.2.2.2.1 (C.1.2.2.2.2 _ hm) (C.1.2.2.2.2 _ mv_arraycopyName) (C.1.2.2.2.2 _ mt_arraycopyName) (C.1.2.2.2.2 _ mn__java_lang_System_) C.2.1 h.1 h.2.1 h.2.2 q0 q1 0 0 he0 he1 rfl rfl rfl (by decide) (by decide) (nI_pos (by omega)) (by rw [nI_clamp (by omega)]; simpa using hk0) (by rw [nI_clamp (by omega)]; simpa using hk1) (fun _ _ => rfl) hR.1 (by have := hR.2; simpa [nativeFrameWords] using this) hdg (fun H1 l1 g1 g2 g3 => ?_)
  rw [nI_clamp (by omega)] at g1 g2
  have hl : q1 < ws.length := (List.getElem?_eq_some_iff.mp he1).1
  refine kk H1 l1 (HS.arr ⟨g1, g2, g3⟩ q1 (List.getElem?_set_self hl) hg ?_)
  rw [List.set_set]
  exact hw
theorem r_min (C : CX p s m args c cc nL own D cI cZ kS vS A) {index : Nat} (hm : Cond.methodLink own index Lib.Math.min.name ∈ wsL_law) (hls : lv_has ls nL lvs) (hR : 1 ≤ R.frames ∧ (rest.map fun v => v.category).sum + 13 ≤ R.locals) (hf : cells ≤ R.cells ∧ slots ≤ R.slots) {x y : Int32} (hdg : decode cc pc = .ok (.invokestatic index, 3))
    (kk : W p l e R s m args below meth c H locs cells slots Q (F0 m (pc + 3) ls (.int (if y < x then y else x) :: rest))) : W p l e R s m args below meth c H locs cells slots Q (F0 m pc ls (.int y :: .int x :: rest)) :=
  va_mmin C.1.1 C.1.2.1 (C.1.2.2.1.trans hls.1.symm) C.1.2.2.2.1 (C.1.2.2.2.2 _ hm) (C.1.2.2.2.2 _ mt_Lib_Math_min_name) (C.1.2.2.2.2 _ mn__java_lang_Math_) (C.1.2.2.2.2 _ mc_Lib_Math_min_name) hR.1 hR.2 hf.1 hf.2 hdg kk
theorem r_max (C : CX p s m args c cc nL own D cI cZ kS vS A) {index : Nat} (hm : Cond.methodLink own index Lib.Math.max.name ∈ wsL_law) (hls : lv_has ls nL lvs) (hR : 1 ≤ R.frames ∧ (rest.map fun v => v.category).sum + 13 ≤ R.locals) (hf : cells ≤ R.cells ∧ slots ≤ R.slots) {x y : Int32} (hdg : decode cc pc = .ok (.invokestatic index, 3))
    (kk : W p l e R s m args below meth c H locs cells slots Q (F0 m (pc + 3) ls (.int (if x < y then y else x) :: rest))) : W p l e R s m args below meth c H locs cells slots Q (F0 m pc ls (.int y :: .int x :: rest)) :=
  va_mmax C.1.1 C.1.2.1 (C.1.2.2.1.trans hls.1.symm) C.1.2.2.2.1 (C.1.2.2.2.2 _ hm) (C.1.2.2.2.2 _ mt_Lib_Math_max_name) (C.1.2.2.2.2 _ mn__java_lang_Math_) (C.1.2.2.2.2 _ mc_Lib_Math_max_name) hR.1 hR.2 hf.1 hf.2 hdg kk
theorem r_obj (C : CX p s m args c cc nL own D cI cZ kS vS A) {index : Nat} (hm : Cond.methodLink own index objectInit ∈ wsL_law) (hls : lv_has ls nL lvs) (hR : 1 ≤ R.frames ∧ (rest.map fun v => v.category).sum + 12 ≤ R.locals) (hdg : decode cc pc = .ok (.invokespecial index, 3))
    (kk : W p l e R s m args below meth c H locs cells slots Q (F0 m (pc + 3) ls rest)) : W p l e R s m args below meth c H locs cells slots Q (F0 m pc ls (.ref a :: rest)) :=
  W.objInit C.1.1 C.1.2.1 C.1.2.2.2.1 (C.1.2.2.2.2 _ hm) (C.1.2.2.2.2 _ mi_objectInit) (C.1.2.2.2.2 _ mc_objectInit) rfl (hls.1.trans C.1.2.2.1.symm) rfl hdg hR.1 (by have := hR.2; show 2 * 0 + _ + 12 ≤ _; omega) kk
theorem r_new (C : CX p s m args c cc nL own D cI cZ kS vS A) (h : HS D A s H locs ws) {index ci : Nat} {Cn : String} {T : u_T} {N : Nat} {ty : Nat → FieldType} (F : FK Cn T N ci ty) (hk : Cond.classLink own index Cn ∈ wsL_law) (hi : Cond.instantiable Cn N ∈ wsL_law) (hn : Cond.initialized Cn ∈ wsL_law) {fs : List Value} (hfs : ∀ j, j < N → defaultValue (ty j) = vp_V fs j) (hf : cells + 1 ≤ R.cells ∧ slots + N ≤ R.slots) (hdg : decode cc pc = .ok (.new index, 3))
    (kk : ∀ (q : Nat) (H : Heap), HS D A s H locs (ws ++ [(q, .inr (ci, fs))]) → W p l e R s m args below meth c H locs (cells + 1) (slots + N) Q (F0 m (pc + 3) ls (.ref q :: rest))) : W p l e R s m args below meth c H locs cells slots Q (F0 m pc ls rest) :=
  va_new C.1.1 C.1.2.1 C.1.2.2.2.2 F.2.1 ty F.2.2.1 C.1.2.2.2.1 (C.1.2.2.2.2 _ hk) (C.1.2.2.2.2 _ hi) (C.1.2.2.2.2 _ hn) C.2.1 h.1 h.2.1 h.2.2 C.2.2.2.2 F.1 hfs hf.1 hf.2 hdg (fun q H1 g1 g2 g3 => kk q H1 ⟨g1, g2, g3⟩)
theorem r_newI (C : CX p s m args c cc nL own D cI cZ kS vS A) (h : HS D A s H locs ws) {n : Int32} (k : Nat) (hn : n = nI k) (hk : k < 100) (hf : cells + 1 ≤ R.cells ∧ slots + k ≤ R.slots) (hdg : decode cc pc = .ok (.newarray .int, 2))
    (kk : ∀ (q : Nat) (H : Heap), HS D A s H locs (ws ++ [(q, .inl (cI, k, .inl (fun _ => 0)))]) → W p l e R s m args below meth c H locs (cells + 1) (slots + k) Q (F0 m (pc + 2) ls (.ref q :: rest))) : W p l e R s m args below meth c H locs cells slots Q (F0 m pc ls (.int n :: rest)) := by
  subst hn
  refine va_newa (atype := .int) (a0 := (k, .inl (fun _ => 0))) C.1.1 C.1.2.1 (C.1.2.2.2.2 _ my_int) rfl C.2.1 h.1 h.2.1 h.2.2 C.2.2.2.2 (fun _ => rfl) (nI_pos (by omega)) (nI_clamp (by omega)) (by show k * 4 ≤ _; omega) hf.1 hf.2 hdg (fun q cA H1 gK g1 g2 g3 => ?_)
  have e1 : s.vm.findClass _ = some cA := (gK.2 2 (cA, .int) rfl).2
  have e2 : s.vm.findClass _ = some cI := (C.2.1.2 0 (cI, .int) rfl).2
  cases e1.symm.trans e2
  exact kk q H1 ⟨g1, g2, g3⟩
theorem r_newZ (C : CX p s m args c cc nL own D cI cZ kS vS A) (h : HS D A s H locs ws) {n : Int32} (k : Nat) (hn : n = nI k) (hk : k < 100) (hf : cells + 1 ≤ R.cells ∧ slots + k ≤ R.slots) (hdg : decode cc pc = .ok (.newarray .boolean, 2))
    (kk : ∀ (q : Nat) (H : Heap), HS D A s H locs (ws ++ [(q, .inl (cZ, k, .inl (fun _ => 0)))]) → W p l e R s m args below meth c H locs (cells + 1) (slots + k) Q (F0 m (pc + 2) ls (.ref q :: rest))) : W p l e R s m args below meth c H locs cells slots Q (F0 m pc ls (.int n :: rest)) := by
  subst hn
  refine va_newa (atype := .boolean) (a0 := (k, .inl (fun _ => 0))) C.1.1 C.1.2.1 (C.1.2.2.2.2 _ my_boolean) rfl C.2.1 h.1 h.2.1 h.2.2 C.2.2.2.2 (fun _ => rfl) (nI_pos (by omega)) (nI_clamp (by omega)) (by show k * 1 ≤ _; omega) hf.1 hf.2 hdg (fun q cA H1 gK g1 g2 g3 => ?_)
  have e1 : s.vm.findClass _ = some cA := (gK.2 2 (cA, .boolean) rfl).2
  have e2 : s.vm.findClass _ = some cZ := (C.2.1.2 1 (cZ, .boolean) rfl).2
  cases e1.symm.trans e2
  exact kk q H1 ⟨g1, g2, g3⟩
end Rows
section RowsS
variable {p : Program} {l : Launch} {e : Env} {R : Room} {s : State} {m : MethodId} {args : Array Value} {below : List Frame} {meth : Method} {c : Code} {H : Heap} {locs : List Loc} {cells slots : Nat} {Q : State → Prop}
variable {cc : ByteArray} {nL pc : Nat} {own : String} {D : va_G} {cI cZ : ClassId} {kS vS : Nat} {A : Nat → Prop} {ls : Array Slot} {rest : List Value} {ws : va_W}
theorem CX.txt (C : CX p s m args c cc nL own D cI cZ kS vS A) : va_O "java/lang/String" kS A s s.heap ∧ va_OF "java/lang/String" "coder" "B" (.int 0) kS A s s.heap ∧ va_OF "java/lang/String" "value" "[B" (.ref vS) kS A s s.heap ∧ va_T .byte vS 5 (fun j => .int (([114, 102, 98, 111, 116] : List Int32).getD j 0)) A s s.heap := C.2.2.2.1.2.1.1 0 (by decide)
theorem r_sval (C : CX p s m args c cc nL own D cI cZ kS vS A) (h : HS D A s H locs ws) {index : Nat} (hm : Cond.fieldLink own index "java/lang/String" "value" "[B" ∈ wsL_law) (hdg : decode cc pc = .ok (.getfield index, 3))
    (kk : W p l e R s m args below meth c H locs cells slots Q (F0 m (pc + 3) ls (.ref vS :: rest))) : W p l e R s m args below meth c H locs cells slots Q (F0 m pc ls (.ref kS :: rest)) :=
  vk_getf C.1.1 C.1.2.1 C.txt.2.2.1 h.2.2 C.1.2.2.2.1 (C.1.2.2.2.2 _ hm) (fun _ z => z) hdg kk
theorem r_scod (C : CX p s m args c cc nL own D cI cZ kS vS A) (h : HS D A s H locs ws) {index : Nat} (hm : Cond.fieldLink own index "java/lang/String" "coder" "B" ∈ wsL_law) (hdg : decode cc pc = .ok (.getfield index, 3))
    (kk : W p l e R s m args below meth c H locs cells slots Q (F0 m (pc + 3) ls (.int 0 :: rest))) : W p l e R s m args below meth c H locs cells slots Q (F0 m pc ls (.ref kS :: rest)) :=
  vk_getf C.1.1 C.1.2.1 C.txt.2.1 h.2.2 C.1.2.2.2.1 (C.1.2.2.2.2 _ hm) (fun _ z => z) hdg kk
theorem r_scmp (C : CX p s m args c cc nL own D cI cZ kS vS A) (h : HS D A s H locs ws) {index : Nat} (hm : Cond.fieldLink own index "java/lang/String" "COMPACT_STRINGS" "Z" ∈ wsL_law) (hdg : decode cc pc = .ok (.getstatic index, 3))
    (kk : W p l e R s m args below meth c H locs cells slots Q (F0 m (pc + 3) ls (.int 1 :: rest))) : W p l e R s m args below meth c H locs cells slots Q (F0 m pc ls rest) :=
  va_gets C.1.1 C.1.2.1 C.2.2.2.1.2.2 h.2.2 C.1.2.2.2.1 (C.1.2.2.2.2 _ hm) (fun _ z => z) hdg kk
theorem r_slen (C : CX p s m args c cc nL own D cI cZ kS vS A) (h : HS D A s H locs ws) (hdg : decode cc pc = .ok (.arraylength, 1))
    (kk : W p l e R s m args below meth c H locs cells slots Q (F0 m (pc + 1) ls (.int (nI 5) :: rest))) : W p l e R s m args below meth c H locs cells slots Q (F0 m pc ls (.ref vS :: rest)) := by
  obtain ⟨cell, h1, h2, h3, h4, h5, h6, h7⟩ := C.txt.2.2.2
  exact W.alen (n := nI 5) C.1.1 C.1.2.1 (by rw [h.2.2.2.1 vS (Array.getElem?_eq_some_iff.mp h1).1 h7]; exact h1) h2 h5 rfl rfl hdg kk
theorem r_sld (C : CX p s m args c cc nL own D cI cZ kS vS A) (h : HS D A s H locs ws) {x : Int32} (k : Nat) (hk : k < 5) (hx : ([114, 102, 98, 111, 116] : List Int32).getD k 0 = x) (hdg : decode cc pc = .ok (.baload, 1))
    (kk : W p l e R s m args below meth c H locs cells slots Q (F0 m (pc + 1) ls (.int x :: rest))) : W p l e R s m args below meth c H locs cells slots Q (F0 m pc ls (.int (nI k) :: .ref vS :: rest)) :=
  va_tb C.1.1 C.1.2.1 C.txt.2.2.2 h.2.2 (vp_in_nI hk (by omega)) (by rw [nI_clamp (by omega)]; exact congrArg Value.int hx) hdg kk
theorem r_sldc (C : CX p s m args c cc nL own D cI cZ kS vS A) (ho : own = RX4) (hdg : decode cc pc = .ok (.ldc 34, 2))
    (kk : W p l e R s m args below meth c H locs cells slots Q (F0 m (pc + 2) ls (.ref kS :: rest))) : W p l e R s m args below meth c H locs cells slots Q (F0 m pc ls rest) := by
  subst ho
  exact va_ldcS C.1.1 C.1.2.1 C.1.2.2.2.1 C.2.2.2.1.1 hdg kk
end RowsS
end
section
/-! ===== calls: the callee's cells cut out, what came back joined with the rest ===== -/
section Calls
/-- what the tables say of an instance method of ours -/
def WV (Cn : String) (y : MethodName) (cy : ByteArray) (nLy : Nat) (ret : Option FieldType) (n : Nat) : Prop := Cond.instanceMethod y ∈ wsL_law ∧ Cond.selects Cn y y ∈ wsL_law ∧ Cond.code y cy nLy ret ∈ wsL_law ∧ Cond.initialized y.cls ∈ wsL_law ∧ (y.cls ≠ "java/lang/invoke/MethodHandle" ∧ y.cls ≠ "java/lang/invoke/VarHandle" ∧ (parseMethodDescriptor y.desc).map (fun d => d.parameters.length) = some n)
def WS (y : MethodName) (cy : ByteArray) (nLy : Nat) (ret : Option FieldType) (n : Nat) : Prop := Cond.static y ∈ wsL_law ∧ Cond.code y cy nLy ret ∈ wsL_law ∧ Cond.initialized y.cls ∈ wsL_law ∧ (y.cls ≠ "java/lang/invoke/MethodHandle" ∧ y.cls ≠ "java/lang/invoke/VarHandle" ∧ (parseMethodDescriptor y.desc).map (fun d => d.parameters.length) = some n)
def WI (y : MethodName) (cy : ByteArray) (nLy : Nat) (n : Nat) : Prop := Cond.instanceMethod y ∈ wsL_law ∧ y.name = "<init>" ∧ Cond.code y cy nLy none ∈ wsL_law ∧ Cond.initialized y.cls ∈ wsL_law ∧ (y.cls ≠ "java/lang/invoke/MethodHandle" ∧ y.cls ≠ "java/lang/invoke/VarHandle" ∧ (parseMethodDescriptor y.desc).map (fun d => d.parameters.length) = some n)
/-- the callee's cells wc among ws (at isC), the others wr (at isR) -/
def Cut (ws wc wr : va_W) (isC isR : List Nat) : Prop := isC.map (fun i => ws[i]?) = wc.map some ∧ isR.map (fun i => ws[i]?) = wr.map some ∧ va_nd isC = true ∧ va_nd isR = true ∧ (∀ i ∈ isR, i ∉ isC)
theorem goodAll {x : Cond} {y : MethodName} {cy : ByteArray} {nLy : Nat} {ret : Option FieldType} (h : Cond.code y cy nLy ret ∈ wsL_law) : GoodIn (x :: wsL_law) (Cond.code y cy nLy ret :: wsL_law) := by
  intro w hw
  rcases List.mem_cons.mp hw with rfl | hw
  · exact ⟨List.mem_cons_of_mem _ h, Or.inl rfl⟩
  · exact ⟨List.mem_cons_of_mem _ hw, (wsL_law_gd w hw).2⟩
theorem goodAW {y : MethodName} {cy : ByteArray} {nLy : Nat} {ret : Option FieldType} (h : Cond.code y cy nLy ret ∈ wsL_law) : GoodIn wsL_law (Cond.code y cy nLy ret :: wsL_law) := by
  intro w hw
  rcases List.mem_cons.mp hw with rfl | hw
  · exact ⟨h, Or.inl rfl⟩
  · exact ⟨hw, (wsL_law_gd w hw).2⟩
variable {p : Program} {l : Launch} {e : Env} {R : Room} {s : State} {m : MethodId} {args : Array Value} {below : List Frame} {meth : Method} {c : Code} {H : Heap} {locs : List Loc} {cells slots : Nat} {Q : State → Prop}
variable {cc : ByteArray} {nL pc : Nat} {own : String} {D : va_G} {cI cZ : ClassId} {kS vS : Nat} {A : Nat → Prop} {ls : Array Slot} {rest : List Value} {ws wc wr : va_W} {lvs : List (Nat × Value)} {S : Type} {w1 w2 : S → va_W}
variable {y : MethodName} {cy : ByteArray} {nLy fr lo mc ms index n : Nat} {ty : FieldType} {as : List Value} {isC isR : List Nat}
theorem HS.free (C : CX p s m args c cc nL own D cI cZ kS vS A) (h : HS D A s H locs ws) (hcut : Cut ws wc wr isC isR) : ∀ q, va_A wc H.size q → A q := va_free h.2.1 h.2.2 C.2.2.2.2 isC hcut.1
theorem HS.pre (C : CX p s m args c cc nL own D cI cZ kS vS A) (h : HS D A s H locs ws) (hcut : Cut ws wc wr isC isR) (vs : List Value) : ∀ U : State, U.heap = H → s.WarmedH U.vm → va_Pc vs (Pr D cI cZ kS vS wc H.size) vs.toArray U := by
  intro U hU hW
  exact ⟨rfl, by rw [hU], by rw [hU]; exact h.1.sub isC (mapFilter hcut.1), va_K.moved hW.alike C.2.1, (h.2.1.sub isC hcut.2.2.1 hcut.1).weaken (fun _ _ _ _ => trivial), C.2.2.1.warm hW, C.2.2.2.1.call h.2.2 (h.free C hcut) hU hW⟩
theorem HS.back (C : CX p s m args c cc nL own D cI cZ kS vS A) (h : HS D A s H locs ws) (hcut : Cut ws wc wr isC isR) {t : State} {H1 : Heap} {locs1 : List Loc} {wn wf : va_W} (pm : List Nat) (hpn : va_nd pm = true) (hp : pm.map (fun i => (wr ++ wn)[i]?) = wf.map some) (ht : t.heap = H1) (hB : Po D wn (va_A wc H.size) t) (hk : ∀ q : Nat, q < H.size → ¬ va_A wc H.size q → H1[q]? = H[q]?) (hS : va_S A s.heap H1 locs1) : HS D A s H1 locs1 wf := by
  obtain ⟨hP1, hD1⟩ := hB
  rw [ht] at hP1
  obtain ⟨g1, g2⟩ := va_join h.1 h.2.1 isC isR hcut.1 hcut.2.1 hcut.2.2.2.1 hcut.2.2.2.2 hk (h.free C hcut) hP1 hD1
  exact HS.sub ⟨g1, g2, hS⟩ pm hpn hp
variable {b q0 ci N : Nat} {T : u_T} {Cn : String} {tyf : Nat → FieldType} {fs st : List Value}
theorem k_Vi (C : CX p s m args c cc nL own D cI cZ kS vS A) (h : HS D A s H locs ws) {post : Int32 → S → Prop} (hM : CI l y cy nLy ty D cI cZ kS vS fr lo mc ms (.ref b :: as) wc post w1) (hw : WV Cn y cy nLy (some ty) n) (hn : as.length = n) (hcut : Cut ws wc wr isC isR) (F : FK Cn T N ci tyf) (q0 : Nat) (he : ws[q0]? = some (b, .inr (ci, fs))) (hm : Cond.methodLink own index y ∈ wsL_law) (pm : List Nat) (hpn : va_nd pm = true) (hp : ∀ u : S, pm.map (fun i => (wr ++ w1 u)[i]?) = (w2 u).map some) (hR : fr + 1 ≤ R.frames ∧ 8 + (nLy + 11) + lo ≤ R.locals) (hf : cells + mc ≤ R.cells ∧ slots + ms ≤ R.slots) (hs8 : (rest.map fun v => v.category).sum ≤ 8) (hls : lv_has ls nL lvs) (hst : st = as.reverse ++ .ref b :: rest) (hdg : decode cc pc = .ok (.invokevirtual index, 3))
    (kk : ∀ (r : Int32) (u : S) (H : Heap) (locs : List Loc), post r u → HS D A s H locs (w2 u) → W p l e R s m args below meth c H locs (cells + mc) (slots + ms) Q (F0 m (pc + 3) ls (.int r :: rest))) : W p l e R s m args below meth c H locs cells slots Q (F0 m pc ls st) := by
  refine va_calli (va_runV (As := as) (rest := rest) C.1 (hM H.size) ⟨callB_of n C.1.2.2.2.2 (goodAW hw.2.2.1) rfl rfl rfl (C.1.2.2.2.2 _ hw.2.2.2.1) (C.1.2.2.2.2 _ hm) hw.2.2.2.2 hR, C.1.2.2.2.2 _ hw.1, C.1.2.2.2.2 _ hw.2.1⟩ ⟨Pr.blind, va_recv C.2.1 h.1 F.1 he, h.pre C hcut _⟩ rfl hn hls.1 hst (lv_room hs8) hdg hf) h.2.2 (fun q _ z => h.free C hcut q z) (h.free C hcut) (fun r u t H1 locs1 ht hvm hpo hB hz hk hS => kk r u H1 locs1 hpo (h.back C hcut pm hpn (hp u) ht hB hk hS))
theorem k_Vl (C : CX p s m args c cc nL own D cI cZ kS vS A) (h : HS D A s H locs ws) {post : Int64 → S → Prop} (hM : CL l y cy nLy D cI cZ kS vS fr lo mc ms (.ref b :: as) wc post w1) (hw : WV Cn y cy nLy (some .long) n) (hn : as.length = n) (hcut : Cut ws wc wr isC isR) (F : FK Cn T N ci tyf) (q0 : Nat) (he : ws[q0]? = some (b, .inr (ci, fs))) (hm : Cond.methodLink own index y ∈ wsL_law) (pm : List Nat) (hpn : va_nd pm = true) (hp : ∀ u : S, pm.map (fun i => (wr ++ w1 u)[i]?) = (w2 u).map some) (hR : fr + 1 ≤ R.frames ∧ 8 + (nLy + 11) + lo ≤ R.locals) (hf : cells + mc ≤ R.cells ∧ slots + ms ≤ R.slots) (hs8 : (rest.map fun v => v.category).sum ≤ 8) (hls : lv_has ls nL lvs) (hst : st = as.reverse ++ .ref b :: rest) (hdg : decode cc pc = .ok (.invokevirtual index, 3))
    (kk : ∀ (r : Int64) (u : S) (H : Heap) (locs : List Loc), post r u → HS D A s H locs (w2 u) → W p l e R s m args below meth c H locs (cells + mc) (slots + ms) Q (F0 m (pc + 3) ls (.long r :: rest))) : W p l e R s m args below meth c H locs cells slots Q (F0 m pc ls st) := by
  refine va_calll (va_runV (As := as) (rest := rest) C.1 (hM H.size) ⟨callB_of n C.1.2.2.2.2 (goodAW hw.2.2.1) rfl rfl rfl (C.1.2.2.2.2 _ hw.2.2.2.1) (C.1.2.2.2.2 _ hm) hw.2.2.2.2 hR, C.1.2.2.2.2 _ hw.1, C.1.2.2.2.2 _ hw.2.1⟩ ⟨Pr.blind, va_recv C.2.1 h.1 F.1 he, h.pre C hcut _⟩ rfl hn hls.1 hst (lv_room hs8) hdg hf) h.2.2 (fun q _ z => h.free C hcut q z) (h.free C hcut) (fun r u t H1 locs1 ht hvm hpo hB hz hk hS => kk r u H1 locs1 hpo (h.back C hcut pm hpn (hp u) ht hB hk hS))
theorem k_Vv (C : CX p s m args c cc nL own D cI cZ kS vS A) (h : HS D A s H locs ws) {post : S → Prop} (hM : CV l y cy nLy D cI cZ kS vS fr lo mc ms (.ref b :: as) wc post w1) (hw : WV Cn y cy nLy none n) (hn : as.length = n) (hcut : Cut ws wc wr isC isR) (F : FK Cn T N ci tyf) (q0 : Nat) (he : ws[q0]? = some (b, .inr (ci, fs))) (hm : Cond.methodLink own index y ∈ wsL_law) (pm : List Nat) (hpn : va_nd pm = true) (hp : ∀ u : S, pm.map (fun i => (wr ++ w1 u)[i]?) = (w2 u).map some) (hR : fr + 1 ≤ R.frames ∧ 8 + (nLy + 11) + lo ≤ R.locals) (hf : cells + mc ≤ R.cells ∧ slots + ms ≤ R.slots) (hs8 : (rest.map fun v => v.category).sum ≤ 8) (hls : lv_has ls nL lvs) (hst : st = as.reverse ++ .ref b :: rest) (hdg : decode cc pc = .ok (.invokevirtual index, 3))
    (kk : ∀ (u : S) (H : Heap) (locs : List Loc), post u → HS D A s H locs (w2 u) → W p l e R s m args below meth c H locs (cells + mc) (slots + ms) Q (F0 m (pc + 3) ls rest)) : W p l e R s m args below meth c H locs cells slots Q (F0 m pc ls st) := by
  refine va_callv (va_runV (As := as) (rest := rest) C.1 (hM H.size) ⟨callB_of n C.1.2.2.2.2 (goodAW hw.2.2.1) rfl rfl rfl (C.1.2.2.2.2 _ hw.2.2.2.1) (C.1.2.2.2.2 _ hm) hw.2.2.2.2 hR, C.1.2.2.2.2 _ hw.1, C.1.2.2.2.2 _ hw.2.1⟩ ⟨Pr.blind, va_recv C.2.1 h.1 F.1 he, h.pre C hcut _⟩ rfl hn hls.1 hst (lv_room hs8) hdg hf) h.2.2 (fun q _ z => h.free C hcut q z) (h.free C hcut) (fun u t H1 locs1 ht hvm hpo hB hz hk hS => kk u H1 locs1 hpo (h.back C hcut pm hpn (hp u) ht hB hk hS))
theorem k_Si (C : CX p s m args c cc nL own D cI cZ kS vS A) (h : HS D A s H locs ws) {post : Int32 → S → Prop} (hM : CI l y cy nLy ty D cI cZ kS vS fr lo mc ms as wc post w1) (hw : WS y cy nLy (some ty) n) (hn : as.length = n) (hcut : Cut ws wc wr isC isR) (hm : Cond.methodLink own index y ∈ wsL_law) (pm : List Nat) (hpn : va_nd pm = true) (hp : ∀ u : S, pm.map (fun i => (wr ++ w1 u)[i]?) = (w2 u).map some) (hR : fr + 1 ≤ R.frames ∧ 8 + (nLy + 11) + lo ≤ R.locals) (hf : cells + mc ≤ R.cells ∧ slots + ms ≤ R.slots) (hs8 : (rest.map fun v => v.category).sum ≤ 8) (hls : lv_has ls nL lvs) (hst : st = as.reverse ++ rest) (hdg : decode cc pc = .ok (.invokestatic index, 3))
    (kk : ∀ (r : Int32) (u : S) (H : Heap) (locs : List Loc), post r u → HS D A s H locs (w2 u) → W p l e R s m args below meth c H locs (cells + mc) (slots + ms) Q (F0 m (pc + 3) ls (.int r :: rest))) : W p l e R s m args below meth c H locs cells slots Q (F0 m pc ls st) := by
  refine va_calli (va_runS (As := as) (rest := rest) C.1 (hM H.size) ⟨callB_of n C.1.2.2.2.2 (goodAW hw.2.1) rfl rfl rfl (C.1.2.2.2.2 _ hw.2.2.1) (C.1.2.2.2.2 _ hm) hw.2.2.2 hR, C.1.2.2.2.2 _ hw.1⟩ ⟨Pr.blind, h.pre C hcut _⟩ rfl hn hls.1 hst (lv_room hs8) hdg hf) h.2.2 (fun q _ z => h.free C hcut q z) (h.free C hcut) (fun r u t H1 locs1 ht hvm hpo hB hz hk hS => kk r u H1 locs1 hpo (h.back C hcut pm hpn (hp u) ht hB hk hS))
theorem k_Sl (C : CX p s m args c cc nL own D cI cZ kS vS A) (h : HS D A s H locs ws) {post : Int64 → S → Prop} (hM : CL l y cy nLy D cI cZ kS vS fr lo mc ms as wc post w1) (hw : WS y cy nLy (some .long) n) (hn : as.length = n) (hcut : Cut ws wc wr isC isR) (hm : Cond.methodLink own index y ∈ wsL_law) (pm : List Nat) (hpn : va_nd pm = true) (hp : ∀ u : S, pm.map (fun i => (wr ++ w1 u)[i]?) = (w2 u).map some) (hR : fr + 1 ≤ R.frames ∧ 8 + (nLy + 11) + lo ≤ R.locals) (hf : cells + mc ≤ R.cells ∧ slots + ms ≤ R.slots) (hs8 : (rest.map fun v => v.category).sum ≤ 8) (hls : lv_has ls nL lvs) (hst : st = as.reverse ++ rest) (hdg : decode cc pc = .ok (.invokestatic index, 3))
    (kk : ∀ (r : Int64) (u : S) (H : Heap) (locs : List Loc), post r u → HS D A s H locs (w2 u) → W p l e R s m args below meth c H locs (cells + mc) (slots + ms) Q (F0 m (pc + 3) ls (.long r :: rest))) : W p l e R s m args below meth c H locs cells slots Q (F0 m pc ls st) := by
  refine va_calll (va_runS (As := as) (rest := rest) C.1 (hM H.size) ⟨callB_of n C.1.2.2.2.2 (goodAW hw.2.1) rfl rfl rfl (C.1.2.2.2.2 _ hw.2.2.1) (C.1.2.2.2.2 _ hm) hw.2.2.2 hR, C.1.2.2.2.2 _ hw.1⟩ ⟨Pr.blind, h.pre C hcut _⟩ rfl hn hls.1 hst (lv_room hs8) hdg hf) h.2.2 (fun q _ z => h.free C hcut q z) (h.free C hcut) (fun r u t H1 locs1 ht hvm hpo hB hz hk hS => kk r u H1 locs1 hpo (h.back C hcut pm hpn (hp u) ht hB hk hS))
theorem k_Sv (C : CX p s m args c cc nL own D cI cZ kS vS A) (h : HS D A s H locs ws) {post : S → Prop} (hM : CV l y cy nLy D cI cZ kS vS fr lo mc ms as wc post w1) (hw : WS y cy nLy none n) (hn : as.length = n) (hcut : Cut ws wc wr isC isR) (hm : Cond.methodLink own index y ∈ wsL_law) (pm : List Nat) (hpn : va_nd pm = true) (hp : ∀ u : S, pm.map (fun i => (wr ++ w1 u)[i]?) = (w2 u).map some) (hR : fr + 1 ≤ R.frames ∧ 8 + (nLy + 11) + lo ≤ R.locals) (hf : cells + mc ≤ R.cells ∧ slots + ms ≤ R.slots) (hs8 : (rest.map fun v => v.category).sum ≤ 8) (hls : lv_has ls nL lvs) (hst : st = as.reverse ++ rest) (hdg : decode cc pc = .ok (.invokestatic index, 3))
    (kk : ∀ (u : S) (H : Heap) (locs : List Loc), post u → HS D A s H locs (w2 u) → W p l e R s m args below meth c H locs (cells + mc) (slots + ms) Q (F0 m (pc + 3) ls rest)) : W p l e R s m args below meth c H locs cells slots Q (F0 m pc ls st) := by
  refine va_callv (va_runS (As := as) (rest := rest) C.1 (hM H.size) ⟨callB_of n C.1.2.2.2.2 (goodAW hw.2.1) rfl rfl rfl (C.1.2.2.2.2 _ hw.2.2.1) (C.1.2.2.2.2 _ hm) hw.2.2.2 hR, C.1.2.2.2.2 _ hw.1⟩ ⟨Pr.blind, h.pre C hcut _⟩ rfl hn hls.1 hst (lv_room hs8) hdg hf) h.2.2 (fun q _ z => h.free C hcut q z) (h.free C hcut) (fun u t H1 locs1 ht hvm hpo hB hz hk hS => kk u H1 locs1 hpo (h.back C hcut pm hpn (hp u) ht hB hk hS))
theorem k_Iv (C : CX p s m args c cc nL own D cI cZ kS vS A) (h : HS D A s H locs ws) {post : S → Prop} (hM : CV l y cy nLy D cI cZ kS vS fr lo mc ms (.ref b :: as) wc post w1) (hw : WI y cy nLy n) (hn : as.length = n) (hcut : Cut ws wc wr isC isR) (hm : Cond.methodLink own index y ∈ wsL_law) (pm : List Nat) (hpn : va_nd pm = true) (hp : ∀ u : S, pm.map (fun i => (wr ++ w1 u)[i]?) = (w2 u).map some) (hR : fr + 1 ≤ R.frames ∧ 8 + (nLy + 11) + lo ≤ R.locals) (hf : cells + mc ≤ R.cells ∧ slots + ms ≤ R.slots) (hs8 : (rest.map fun v => v.category).sum ≤ 8) (hls : lv_has ls nL lvs) (hst : st = as.reverse ++ .ref b :: rest) (hdg : decode cc pc = .ok (.invokespecial index, 3))
    (kk : ∀ (u : S) (H : Heap) (locs : List Loc), post u → HS D A s H locs (w2 u) → W p l e R s m args below meth c H locs (cells + mc) (slots + ms) Q (F0 m (pc + 3) ls rest)) : W p l e R s m args below meth c H locs cells slots Q (F0 m pc ls st) := by
  refine va_callv (va_runI (As := as) (rest := rest) C.1 (hM H.size) ⟨callB_of n C.1.2.2.2.2 (goodAW hw.2.2.1) rfl rfl rfl (C.1.2.2.2.2 _ hw.2.2.2.1) (C.1.2.2.2.2 _ hm) hw.2.2.2.2 hR, hw.2.1, C.1.2.2.2.2 _ hw.1⟩ ⟨Pr.blind, h.pre C hcut _⟩ rfl hn hls.1 hst (lv_room hs8) hdg hf) h.2.2 (fun q _ z => h.free C hcut q z) (h.free C hcut) (fun u t H1 locs1 ht hvm hpo hB hz hk hS => kk u H1 locs1 hpo (h.back C hcut pm hpn (hp u) ht hB hk hS))
theorem k_SiN {nn : Nat} {host : String} (C : CX p s m args c cc nL own D cI cZ kS vS A) (h : HS D A s H locs ws) {post : Int32 → S → Prop} (hM : CI l y cy nLy ty D cI cZ kS vS fr lo mc ms as wc post w1) (hw : WS y cy nLy (some ty) n) (hn : as.length = n) (hcut : Cut ws wc wr isC isR) (hm : nwM[nn]? = some (own, index, y, host)) (pm : List Nat) (hpn : va_nd pm = true) (hp : ∀ u : S, pm.map (fun i => (wr ++ w1 u)[i]?) = (w2 u).map some) (hR : fr + 1 ≤ R.frames ∧ 8 + (nLy + 11) + lo ≤ R.locals) (hf : cells + mc ≤ R.cells ∧ slots + ms ≤ R.slots) (hs8 : (rest.map fun v => v.category).sum ≤ 8) (hls : lv_has ls nL lvs) (hst : st = as.reverse ++ rest) (hdg : decode cc pc = .ok (.invokestatic index, 3))
    (kk : ∀ (r : Int32) (u : S) (H : Heap) (locs : List Loc), post r u → HS D A s H locs (w2 u) → W p l e R s m args below meth c H locs (cells + mc) (slots + ms) Q (F0 m (pc + 3) ls (.int r :: rest))) : W p l e R s m args below meth c H locs cells slots Q (F0 m pc ls st) := by
  refine va_calli (va_runSN (As := as) (rest := rest) C.1 (hM H.size) ⟨va_cnB n C.1.2.2.2.2 (goodAW hw.2.1) rfl rfl rfl (C.2.2.1.2 _ (List.mem_of_getElem? hm)) (C.1.2.2.2.2 _ hw.2.2.1) hw.2.2.2 hR, C.1.2.2.2.2 _ hw.1, trivial⟩ ⟨Pr.blind, h.pre C hcut _⟩ rfl hn hls.1 hst (lv_room hs8) hdg hf) h.2.2 (fun q _ z => h.free C hcut q z) (h.free C hcut) (fun r u t H1 locs1 ht hvm hpo hB hz hk hS => kk r u H1 locs1 hpo (h.back C hcut pm hpn (hp u) ht hB hk hS))
theorem k_IvN {nn : Nat} {host : String} (C : CX p s m args c cc nL own D cI cZ kS vS A) (h : HS D A s H locs ws) {post : S → Prop} (hM : CV l y cy nLy D cI cZ kS vS fr lo mc ms (.ref b :: as) wc post w1) (hw : WI y cy nLy n) (hn : as.length = n) (hcut : Cut ws wc wr isC isR) (hm : nwM[nn]? = some (own, index, y, host)) (pm : List Nat) (hpn : va_nd pm = true) (hp : ∀ u : S, pm.map (fun i => (wr ++ w1 u)[i]?) = (w2 u).map some) (hR : fr + 1 ≤ R.frames ∧ 8 + (nLy + 11) + lo ≤ R.locals) (hf : cells + mc ≤ R.cells ∧ slots + ms ≤ R.slots) (hs8 : (rest.map fun v => v.category).sum ≤ 8) (hls : lv_has ls nL lvs) (hst : st = as.reverse ++ .ref b :: rest) (hdg : decode cc pc = .ok (.invokespecial index, 3))
    (kk : ∀ (u : S) (H : Heap) (locs : List Loc), post u → HS D A s H locs (w2 u) → W p l e R s m args below meth c H locs (cells + mc) (slots + ms) Q (F0 m (pc + 3) ls rest)) : W p l e R s m args below meth c H locs cells slots Q (F0 m pc ls st) := by
  refine va_callv (va_runIN (As := as) (rest := rest) C.1 (hM H.size) ⟨va_cnB n C.1.2.2.2.2 (goodAW hw.2.2.1) rfl rfl rfl (C.2.2.1.2 _ (List.mem_of_getElem? hm)) (C.1.2.2.2.2 _ hw.2.2.2.1) hw.2.2.2.2 hR, hw.2.1, C.1.2.2.2.2 _ hw.1⟩ ⟨Pr.blind, h.pre C hcut _⟩ rfl hn hls.1 hst (lv_room hs8) hdg hf) h.2.2 (fun q _ z => h.free C hcut q z) (h.free C hcut) (fun u t H1 locs1 ht hvm hpo hB hz hk hS => kk u H1 locs1 hpo (h.back C hcut pm hpn (hp u) ht hB hk hS))
theorem k_ViS (C : CX p s m args c cc nL own D cI cZ kS vS A) (h : HS D A s H locs ws) {post : Int32 → S → Prop} (hM : CI l y cy nLy ty D cI cZ kS vS fr lo mc ms (.ref kS :: as) wc post w1) (hw : WV Cn y cy nLy (some ty) n) (hn : as.length = n) (hcut : Cut ws wc wr isC isR) (hCn : Cn = "java/lang/String") (hm : Cond.methodLink own index y ∈ wsL_law) (pm : List Nat) (hpn : va_nd pm = true) (hp : ∀ u : S, pm.map (fun i => (wr ++ w1 u)[i]?) = (w2 u).map some) (hR : fr + 1 ≤ R.frames ∧ 8 + (nLy + 11) + lo ≤ R.locals) (hf : cells + mc ≤ R.cells ∧ slots + ms ≤ R.slots) (hs8 : (rest.map fun v => v.category).sum ≤ 8) (hls : lv_has ls nL lvs) (hst : st = as.reverse ++ .ref kS :: rest) (hdg : decode cc pc = .ok (.invokevirtual index, 3))
    (kk : ∀ (r : Int32) (u : S) (H : Heap) (locs : List Loc), post r u → HS D A s H locs (w2 u) → W p l e R s m args below meth c H locs (cells + mc) (slots + ms) Q (F0 m (pc + 3) ls (.int r :: rest))) : W p l e R s m args below meth c H locs cells slots Q (F0 m pc ls st) := by
  refine va_calli (va_runV (As := as) (rest := rest) C.1 (hM H.size) ⟨callB_of n C.1.2.2.2.2 (goodAW hw.2.2.1) rfl rfl rfl (C.1.2.2.2.2 _ hw.2.2.2.1) (C.1.2.2.2.2 _ hm) hw.2.2.2.2 hR, C.1.2.2.2.2 _ hw.1, C.1.2.2.2.2 _ hw.2.1⟩ ⟨Pr.blind, by rw [hCn]; exact vk_recv C.2.2.2.1.2.1 (i := 0) (by decide) h.2.2, h.pre C hcut _⟩ rfl hn hls.1 hst (lv_room hs8) hdg hf) h.2.2 (fun q _ z => h.free C hcut q z) (h.free C hcut) (fun r u t H1 locs1 ht hvm hpo hB hz hk hS => kk r u H1 locs1 hpo (h.back C hcut pm hpn (hp u) ht hB hk hS))
end Calls
end
section
/-! ===== what the tables say of each method ===== -/
theorem wv_X7_init : WI yX7_init cX7_init 1 0 := ⟨mi_yX7_init, rfl, mc_yX7_init, mn_RX7, by decide, by decide, by decide⟩
theorem wv_X4_init : WI yX4_init cX4_init 1 0 := ⟨mi_yX4_init, rfl, mc_yX4_init, mn_RX4, by decide, by decide, by decide⟩
theorem wv_X1_init : WI yX1_init cX1_init 1 0 := ⟨mi_yX1_init, rfl, mc_yX1_init, mn_RX1, by decide, by decide, by decide⟩
theorem wv_X5_init : WI yX5_init cX5_init 2 1 := ⟨mi_yX5_init, rfl, mc_yX5_init, mn_RX5, by decide, by decide, by decide⟩
theorem wv_X6_init : WI yX6_init cX6_init 1 0 := ⟨mi_yX6_init, rfl, mc_yX6_init, mn_RX6, by decide, by decide, by decide⟩
theorem wv_X3_init : WI yX3_init cX3_init 4 3 := ⟨mi_yX3_init, rfl, mc_yX3_init, mn_RX3, by decide, by decide, by decide⟩
theorem wv_X2_init : WI yX2_init cX2_init 1 0 := ⟨mi_yX2_init, rfl, mc_yX2_init, mn_RX2, by decide, by decide, by decide⟩
theorem wv_X0_init : WI yX0_init cX0_init 3 2 := ⟨mi_yX0_init, rfl, mc_yX0_init, mn_RX0, by decide, by decide, by decide⟩
theorem wv_X8_init : WI yX8_init cX8_init 1 0 := ⟨mi_yX8_init, rfl, mc_yX8_init, mn_RX8, by decide, by decide, by decide⟩
theorem wv_X7_letter : WV RX7 yX7_letter cX7_letter 2 (some .int) 1 := ⟨mi_yX7_letter, ms_yX7_letter, mc_yX7_letter, mn_RX7, by decide, by decide, by decide⟩
theorem wv_X7_within : WS yX7_within cX7_within 3 (some .boolean) 3 := ⟨mt_yX7_within, mc_yX7_within, mn_RX7, by decide, by decide, by decide⟩
theorem wv_X4_isFull : WV RX4 yX4_isFull cX4_isFull 1 (some .boolean) 0 := ⟨mi_yX4_isFull, ms_yX4_isFull, mc_yX4_isFull, mn_RX4, by decide, by decide, by decide⟩
theorem wv_X4_write : WV RX4 yX4_write cX4_write 2 (some .int) 1 := ⟨mi_yX4_write, ms_yX4_write, mc_yX4_write, mn_RX4, by decide, by decide, by decide⟩
theorem wv_X8_letter : WV RX8 yX8_letter cX8_letter 2 (some .int) 1 := ⟨mi_yX8_letter, ms_yX8_letter, mc_yX8_letter, mn_RX8, by decide, by decide, by decide⟩
theorem wv_X8_in : WS yX8_in cX8_in 6 (some .boolean) 3 := ⟨mt_yX8_in, mc_yX8_in, mn_RX8, by decide, by decide, by decide⟩
theorem wv_X7_blank : WV RX7 yX7_blank cX7_blank 1 (some .int) 0 := ⟨mi_yX7_blank, ms_yX7_blank, mc_yX7_blank, mn_RX7, by decide, by decide, by decide⟩
theorem wv_X4_clear : WV RX4 yX4_clear cX4_clear 2 (some .int) 0 := ⟨mi_yX4_clear, ms_yX4_clear, mc_yX4_clear, mn_RX4, by decide, by decide, by decide⟩
theorem wv_X8_blank : WV RX8 yX8_blank cX8_blank 2 (some .int) 0 := ⟨mi_yX8_blank, ms_yX8_blank, mc_yX8_blank, mn_RX8, by decide, by decide, by decide⟩
theorem wv_X7_fault : WV RX7 yX7_fault cX7_fault 1 (some .int) 0 := ⟨mi_yX7_fault, ms_yX7_fault, mc_yX7_fault, mn_RX7, by decide, by decide, by decide⟩
theorem wv_X4_firstFault : WV RX4 yX4_firstFault cX4_firstFault 2 (some .int) 0 := ⟨mi_yX4_firstFault, ms_yX4_firstFault, mc_yX4_firstFault, mn_RX4, by decide, by decide, by decide⟩
theorem wv_X4_fits : WV RX4 yX4_fits cX4_fits 4 (some .boolean) 1 := ⟨mi_yX4_fits, ms_yX4_fits, mc_yX4_fits, mn_RX4, by decide, by decide, by decide⟩
theorem wv_X4_codeAt : WV RX4 yX4_codeAt cX4_codeAt 2 (some .int) 1 := ⟨mi_yX4_codeAt, ms_yX4_codeAt, mc_yX4_codeAt, mn_RX4, by decide, by decide, by decide⟩
theorem wv_X4_standsBehindEnd : WV RX4 yX4_standsBehindEnd cX4_standsBehindEnd 2 (some .boolean) 1 := ⟨mi_yX4_standsBehindEnd, ms_yX4_standsBehindEnd, mc_yX4_standsBehindEnd, mn_RX4, by decide, by decide, by decide⟩
theorem wv_J0_indexOf_0f7a4 : WV RJ0 yJ0_indexOf_0f7a4 cJ0_indexOf_0f7a4 2 (some .int) 1 := ⟨mi_yJ0_indexOf_0f7a4, ms_yJ0_indexOf_0f7a4, mc_yJ0_indexOf_0f7a4, mn_RJ0, by decide, by decide, by decide⟩
theorem wv_J0_indexOf_7cf53 : WV RJ0 yJ0_indexOf_7cf53 cJ0_indexOf_7cf53 3 (some .int) 2 := ⟨mi_yJ0_indexOf_7cf53, ms_yJ0_indexOf_7cf53, mc_yJ0_indexOf_7cf53, mn_RJ0, by decide, by decide, by decide⟩
theorem wv_J0_isLatin1_aae02 : WV RJ0 yJ0_isLatin1_aae02 cJ0_isLatin1_aae02 1 (some .boolean) 0 := ⟨mi_yJ0_isLatin1_aae02, ms_yJ0_isLatin1_aae02, mc_yJ0_isLatin1_aae02, mn_RJ0, by decide, by decide, by decide⟩
theorem wv_J0_length_8abf5 : WV RJ0 yJ0_length_8abf5 cJ0_length_8abf5 1 (some .int) 0 := ⟨mi_yJ0_length_8abf5, ms_yJ0_length_8abf5, mc_yJ0_length_8abf5, mn_RJ0, by decide, by decide, by decide⟩
theorem wv_J0_coder_7d493 : WV RJ0 yJ0_coder_7d493 cJ0_coder_7d493 1 (some .byte) 0 := ⟨mi_yJ0_coder_7d493, ms_yJ0_coder_7d493, mc_yJ0_coder_7d493, mn_RJ0, by decide, by decide, by decide⟩
theorem wv_J1_indexOf_4cfef : WS yJ1_indexOf_4cfef cJ1_indexOf_4cfef 4 (some .int) 4 := ⟨mt_yJ1_indexOf_4cfef, mc_yJ1_indexOf_4cfef, mn_RJ1, by decide, by decide, by decide⟩
theorem wv_J1_canEncode_9a6ad : WS yJ1_canEncode_9a6ad cJ1_canEncode_9a6ad 1 (some .boolean) 1 := ⟨mt_yJ1_canEncode_9a6ad, mc_yJ1_canEncode_9a6ad, mn_RJ1, by decide, by decide, by decide⟩
theorem wv_J1_indexOfChar_4cfef : WS yJ1_indexOfChar_4cfef cJ1_indexOfChar_4cfef 6 (some .int) 4 := ⟨mt_yJ1_indexOfChar_4cfef, mc_yJ1_indexOfChar_4cfef, mn_RJ1, by decide, by decide, by decide⟩
theorem wv_J2_indexOf_4cfef : WS yJ2_indexOf_4cfef cJ2_indexOf_4cfef 4 (some .int) 4 := ⟨mt_yJ2_indexOf_4cfef, mc_yJ2_indexOf_4cfef, mn_RJ2, by decide, by decide, by decide⟩
theorem wv_J2_indexOfChar_4cfef : WS yJ2_indexOfChar_4cfef cJ2_indexOfChar_4cfef 4 (some .int) 4 := ⟨mt_yJ2_indexOfChar_4cfef, mc_yJ2_indexOfChar_4cfef, mn_RJ2, by decide, by decide, by decide⟩
theorem wv_J2_checkBoundsBeginEnd_d044e : WS yJ2_checkBoundsBeginEnd_d044e cJ2_checkBoundsBeginEnd_d044e 3 none 3 := ⟨mt_yJ2_checkBoundsBeginEnd_d044e, mc_yJ2_checkBoundsBeginEnd_d044e, mn_RJ2, by decide, by decide, by decide⟩
theorem wv_J2_length_9d52b : WS yJ2_length_9d52b cJ2_length_9d52b 1 (some .int) 1 := ⟨mt_yJ2_length_9d52b, mc_yJ2_length_9d52b, mn_RJ2, by decide, by decide, by decide⟩
theorem wv_J0_checkBoundsBeginEnd_23922 : WS yJ0_checkBoundsBeginEnd_23922 cJ0_checkBoundsBeginEnd_23922 3 none 3 := ⟨mt_yJ0_checkBoundsBeginEnd_23922, mc_yJ0_checkBoundsBeginEnd_23922, mn_RJ0, by decide, by decide, by decide⟩
theorem wv_J3_checkFromToIndex_8c36e : WS yJ3_checkFromToIndex_8c36e cJ3_checkFromToIndex_8c36e 4 (some .int) 4 := ⟨mt_yJ3_checkFromToIndex_8c36e, mc_yJ3_checkFromToIndex_8c36e, mn_RJ3, by decide, by decide, by decide⟩
theorem wv_J2_indexOfCharUnsafe_4cfef : WS yJ2_indexOfCharUnsafe_4cfef cJ2_indexOfCharUnsafe_4cfef 5 (some .int) 4 := ⟨mt_yJ2_indexOfCharUnsafe_4cfef, mc_yJ2_indexOfCharUnsafe_4cfef, mn_RJ2, by decide, by decide, by decide⟩
theorem wv_J2_getChar_3b067 : WS yJ2_getChar_3b067 cJ2_getChar_3b067 2 (some .char) 2 := ⟨mt_yJ2_getChar_3b067, mc_yJ2_getChar_3b067, mn_RJ2, by decide, by decide, by decide⟩
theorem wv_J2_indexOfSupplementary_4cfef : WS yJ2_indexOfSupplementary_4cfef cJ2_indexOfSupplementary_4cfef 7 (some .int) 4 := ⟨mt_yJ2_indexOfSupplementary_4cfef, mc_yJ2_indexOfSupplementary_4cfef, mn_RJ2, by decide, by decide, by decide⟩
theorem wv_J11_isValidCodePoint_9a6ad : WS yJ11_isValidCodePoint_9a6ad cJ11_isValidCodePoint_9a6ad 2 (some .boolean) 1 := ⟨mt_yJ11_isValidCodePoint_9a6ad, mc_yJ11_isValidCodePoint_9a6ad, mn_RJ11, by decide, by decide, by decide⟩
theorem wv_J11_highSurrogate_5068e : WS yJ11_highSurrogate_5068e cJ11_highSurrogate_5068e 1 (some .char) 1 := ⟨mt_yJ11_highSurrogate_5068e, mc_yJ11_highSurrogate_5068e, mn_RJ11, by decide, by decide, by decide⟩
theorem wv_J11_lowSurrogate_5068e : WS yJ11_lowSurrogate_5068e cJ11_lowSurrogate_5068e 1 (some .char) 1 := ⟨mt_yJ11_lowSurrogate_5068e, mc_yJ11_lowSurrogate_5068e, mn_RJ11, by decide, by decide, by decide⟩
theorem wv_X4_fitsBehindRiver : WS yX4_fitsBehindRiver cX4_fitsBehindRiver 2 (some .boolean) 2 := ⟨mt_yX4_fitsBehindRiver, mc_yX4_fitsBehindRiver, mn_RX4, by decide, by decide, by decide⟩
theorem wv_X8_fault : WV RX8 yX8_fault cX8_fault 1 (some .int) 0 := ⟨mi_yX8_fault, ms_yX8_fault, mc_yX8_fault, mn_RX8, by decide, by decide, by decide⟩
theorem wv_X8_faultOf : WV RX8 yX8_faultOf cX8_faultOf 2 (some .int) 0 := ⟨mi_yX8_faultOf, ms_yX8_faultOf, mc_yX8_faultOf, mn_RX8, by decide, by decide, by decide⟩
theorem wv_X8_go : WV RX8 yX8_go cX8_go 4 (some .boolean) 1 := ⟨mi_yX8_go, ms_yX8_go, mc_yX8_go, mn_RX8, by decide, by decide, by decide⟩
theorem wv_X8_kindBy : WS yX8_kindBy cX8_kindBy 1 (some .int) 1 := ⟨mt_yX8_kindBy, mc_yX8_kindBy, mn_RX8, by decide, by decide, by decide⟩
theorem wv_X7_coast : WV RX7 yX7_coast cX7_coast 1 (some .int) 0 := ⟨mi_yX7_coast, ms_yX7_coast, mc_yX7_coast, mn_RX7, by decide, by decide, by decide⟩
theorem wv_X4_holdsCoast : WV RX4 yX4_holdsCoast cX4_holdsCoast 1 (some .boolean) 0 := ⟨mi_yX4_holdsCoast, ms_yX4_holdsCoast, mc_yX4_holdsCoast, mn_RX4, by decide, by decide, by decide⟩
theorem wv_X1_readFrom : WV RX1 yX1_readFrom cX1_readFrom 3 none 1 := ⟨mi_yX1_readFrom, ms_yX1_readFrom, mc_yX1_readFrom, mn_RX1, by decide, by decide, by decide⟩
theorem wv_X4_rivers : WV RX4 yX4_rivers cX4_rivers 1 (some .int) 0 := ⟨mi_yX4_rivers, ms_yX4_rivers, mc_yX4_rivers, mn_RX4, by decide, by decide, by decide⟩
theorem wv_X4_lastDigit : WV RX4 yX4_lastDigit cX4_lastDigit 1 (some .int) 0 := ⟨mi_yX4_lastDigit, ms_yX4_lastDigit, mc_yX4_lastDigit, mn_RX4, by decide, by decide, by decide⟩
theorem wv_X4_kindAt : WV RX4 yX4_kindAt cX4_kindAt 2 (some .int) 1 := ⟨mi_yX4_kindAt, ms_yX4_kindAt, mc_yX4_kindAt, mn_RX4, by decide, by decide, by decide⟩
theorem wv_X4_flowAt : WV RX4 yX4_flowAt cX4_flowAt 2 (some .int) 1 := ⟨mi_yX4_flowAt, ms_yX4_flowAt, mc_yX4_flowAt, mn_RX4, by decide, by decide, by decide⟩
theorem wv_X5_beginAs : WV RX5 yX5_beginAs cX5_beginAs 3 none 1 := ⟨mi_yX5_beginAs, ms_yX5_beginAs, mc_yX5_beginAs, mn_RX5, by decide, by decide, by decide⟩
theorem wv_X4_waterAt : WV RX4 yX4_waterAt cX4_waterAt 2 (some .int) 1 := ⟨mi_yX4_waterAt, ms_yX4_waterAt, mc_yX4_waterAt, mn_RX4, by decide, by decide, by decide⟩
theorem wv_X6_clear : WV RX6 yX6_clear cX6_clear 2 (some .int) 0 := ⟨mi_yX6_clear, ms_yX6_clear, mc_yX6_clear, mn_RX6, by decide, by decide, by decide⟩
theorem wv_X8_coast : WV RX8 yX8_coast cX8_coast 2 (some .int) 0 := ⟨mi_yX8_coast, ms_yX8_coast, mc_yX8_coast, mn_RX8, by decide, by decide, by decide⟩
theorem wv_X7_river : WV RX7 yX7_river cX7_river 3 (some .int) 2 := ⟨mi_yX7_river, ms_yX7_river, mc_yX7_river, mn_RX7, by decide, by decide, by decide⟩
theorem wv_X1_hasRiver : WV RX1 yX1_hasRiver cX1_hasRiver 2 (some .boolean) 1 := ⟨mi_yX1_hasRiver, ms_yX1_hasRiver, mc_yX1_hasRiver, mn_RX1, by decide, by decide, by decide⟩
theorem wv_X5_placeOf : WV RX5 yX5_placeOf cX5_placeOf 3 (some .int) 1 := ⟨mi_yX5_placeOf, ms_yX5_placeOf, mc_yX5_placeOf, mn_RX5, by decide, by decide, by decide⟩
theorem wv_X3_waitsOf : WV RX3 yX3_waitsOf cX3_waitsOf 3 (some .int) 1 := ⟨mi_yX3_waitsOf, ms_yX3_waitsOf, mc_yX3_waitsOf, mn_RX3, by decide, by decide, by decide⟩
theorem wv_X5_copyFrom : WV RX5 yX5_copyFrom cX5_copyFrom 2 none 1 := ⟨mi_yX5_copyFrom, ms_yX5_copyFrom, mc_yX5_copyFrom, mn_RX5, by decide, by decide, by decide⟩
theorem wv_X5_passHour : WV RX5 yX5_passHour cX5_passHour 2 (some .int) 0 := ⟨mi_yX5_passHour, ms_yX5_passHour, mc_yX5_passHour, mn_RX5, by decide, by decide, by decide⟩
theorem wv_X5_addWater : WV RX5 yX5_addWater cX5_addWater 3 (some .int) 2 := ⟨mi_yX5_addWater, ms_yX5_addWater, mc_yX5_addWater, mn_RX5, by decide, by decide, by decide⟩
theorem wv_X5_pushAll : WV RX5 yX5_pushAll cX5_pushAll 4 none 0 := ⟨mi_yX5_pushAll, ms_yX5_pushAll, mc_yX5_pushAll, mn_RX5, by decide, by decide, by decide⟩
theorem wv_X5_pushes : WV RX5 yX5_pushes cX5_pushes 4 (some .boolean) 2 := ⟨mi_yX5_pushes, ms_yX5_pushes, mc_yX5_pushes, mn_RX5, by decide, by decide, by decide⟩
theorem wv_X5_feedSea : WV RX5 yX5_feedSea cX5_feedSea 3 (some .int) 0 := ⟨mi_yX5_feedSea, ms_yX5_feedSea, mc_yX5_feedSea, mn_RX5, by decide, by decide, by decide⟩
theorem wv_X5_sendBehindAll : WV RX5 yX5_sendBehindAll cX5_sendBehindAll 5 none 1 := ⟨mi_yX5_sendBehindAll, ms_yX5_sendBehindAll, mc_yX5_sendBehindAll, mn_RX5, by decide, by decide, by decide⟩
theorem wv_X3_possibleWaters : WV RX3 yX3_possibleWaters cX3_possibleWaters 4 (some .int) 1 := ⟨mi_yX3_possibleWaters, ms_yX3_possibleWaters, mc_yX3_possibleWaters, mn_RX3, by decide, by decide, by decide⟩
theorem wv_X3_isPossible : WV RX3 yX3_isPossible cX3_isPossible 4 (some .boolean) 2 := ⟨mi_yX3_isPossible, ms_yX3_isPossible, mc_yX3_isPossible, mn_RX3, by decide, by decide, by decide⟩
theorem wv_X6_agreeWith : WV RX6 yX6_agreeWith cX6_agreeWith 5 (some .boolean) 1 := ⟨mi_yX6_agreeWith, ms_yX6_agreeWith, mc_yX6_agreeWith, mn_RX6, by decide, by decide, by decide⟩
theorem wv_X3_hourToLook : WV RX3 yX3_hourToLook cX3_hourToLook 4 (some .int) 1 := ⟨mi_yX3_hourToLook, ms_yX3_hourToLook, mc_yX3_hourToLook, mn_RX3, by decide, by decide, by decide⟩
theorem wv_J7_fill_53178 : WS yJ7_fill_53178 cJ7_fill_53178 4 none 2 := ⟨mt_yJ7_fill_53178, mc_yJ7_fill_53178, mn_RJ7, by decide, by decide, by decide⟩
theorem wv_X3_addTakes : WV RX3 yX3_addTakes cX3_addTakes 3 none 1 := ⟨mi_yX3_addTakes, ms_yX3_addTakes, mc_yX3_addTakes, mn_RX3, by decide, by decide, by decide⟩
theorem wv_X3_hourThatParts : WV RX3 yX3_hourThatParts cX3_hourThatParts 6 (some .int) 1 := ⟨mi_yX3_hourThatParts, ms_yX3_hourThatParts, mc_yX3_hourThatParts, mn_RX3, by decide, by decide, by decide⟩
theorem wv_X8_river : WV RX8 yX8_river cX8_river 3 (some .int) 2 := ⟨mi_yX8_river, ms_yX8_river, mc_yX8_river, mn_RX8, by decide, by decide, by decide⟩
theorem wv_X8_isRiver : WV RX8 yX8_isRiver cX8_isRiver 2 (some .boolean) 1 := ⟨mi_yX8_isRiver, ms_yX8_isRiver, mc_yX8_isRiver, mn_RX8, by decide, by decide, by decide⟩
theorem wv_X8_tell : WV RX8 yX8_tell cX8_tell 3 (some .int) 2 := ⟨mi_yX8_tell, ms_yX8_tell, mc_yX8_tell, mn_RX8, by decide, by decide, by decide⟩
theorem wv_X8_placeOf : WV RX8 yX8_placeOf cX8_placeOf 4 (some .int) 1 := ⟨mi_yX8_placeOf, ms_yX8_placeOf, mc_yX8_placeOf, mn_RX8, by decide, by decide, by decide⟩
theorem wv_X8_waitsOf : WV RX8 yX8_waitsOf cX8_waitsOf 4 (some .int) 1 := ⟨mi_yX8_waitsOf, ms_yX8_waitsOf, mc_yX8_waitsOf, mn_RX8, by decide, by decide, by decide⟩
theorem wv_X8_layAside : WV RX8 yX8_layAside cX8_layAside 1 none 0 := ⟨mi_yX8_layAside, ms_yX8_layAside, mc_yX8_layAside, mn_RX8, by decide, by decide, by decide⟩
theorem wv_X8_copy : WS yX8_copy cX8_copy 3 none 2 := ⟨mt_yX8_copy, mc_yX8_copy, mn_RX8, by decide, by decide, by decide⟩
theorem wv_X8_goesBy : WV RX8 yX8_goesBy cX8_goesBy 4 none 0 := ⟨mi_yX8_goesBy, ms_yX8_goesBy, mc_yX8_goesBy, mn_RX8, by decide, by decide, by decide⟩
theorem wv_X8_pushes : WV RX8 yX8_pushes cX8_pushes 6 (some .boolean) 2 := ⟨mi_yX8_pushes, ms_yX8_pushes, mc_yX8_pushes, mn_RX8, by decide, by decide, by decide⟩
theorem wv_X8_goBehind : WV RX8 yX8_goBehind cX8_goBehind 4 none 1 := ⟨mi_yX8_goBehind, ms_yX8_goBehind, mc_yX8_goBehind, mn_RX8, by decide, by decide, by decide⟩
theorem wv_X8_layBack : WV RX8 yX8_layBack cX8_layBack 1 none 0 := ⟨mi_yX8_layBack, ms_yX8_layBack, mc_yX8_layBack, mn_RX8, by decide, by decide, by decide⟩
theorem wv_X8_muchOf : WV RX8 yX8_muchOf cX8_muchOf 7 (some .int) 1 := ⟨mi_yX8_muchOf, ms_yX8_muchOf, mc_yX8_muchOf, mn_RX8, by decide, by decide, by decide⟩
theorem wv_X8_layThen : WV RX8 yX8_layThen cX8_layThen 4 none 2 := ⟨mi_yX8_layThen, ms_yX8_layThen, mc_yX8_layThen, mn_RX8, by decide, by decide, by decide⟩
theorem wv_X8_lookOf : WV RX8 yX8_lookOf cX8_lookOf 8 (some .int) 1 := ⟨mi_yX8_lookOf, ms_yX8_lookOf, mc_yX8_lookOf, mn_RX8, by decide, by decide, by decide⟩
theorem wv_X7_as : WV RX7 yX7_as cX7_as 3 (some .int) 2 := ⟨mi_yX7_as, ms_yX7_as, mc_yX7_as, mn_RX7, by decide, by decide, by decide⟩
theorem wv_X7_isSuch : WS yX7_isSuch cX7_isSuch 2 (some .boolean) 2 := ⟨mt_yX7_isSuch, mc_yX7_isSuch, mn_RX7, by decide, by decide, by decide⟩
theorem wv_X8_as : WV RX8 yX8_as cX8_as 4 (some .int) 2 := ⟨mi_yX8_as, ms_yX8_as, mc_yX8_as, mn_RX8, by decide, by decide, by decide⟩
theorem wv_X7_row : WV RX7 yX7_row cX7_row 2 (some .int) 1 := ⟨mi_yX7_row, ms_yX7_row, mc_yX7_row, mn_RX7, by decide, by decide, by decide⟩
theorem wv_X8_row : WV RX8 yX8_row cX8_row 2 (some .int) 1 := ⟨mi_yX8_row, ms_yX8_row, mc_yX8_row, mn_RX8, by decide, by decide, by decide⟩
theorem wv_X7_hour : WV RX7 yX7_hour cX7_hour 1 (some .int) 0 := ⟨mi_yX7_hour, ms_yX7_hour, mc_yX7_hour, mn_RX7, by decide, by decide, by decide⟩
theorem wv_X1_isRead : WV RX1 yX1_isRead cX1_isRead 1 (some .boolean) 0 := ⟨mi_yX1_isRead, ms_yX1_isRead, mc_yX1_isRead, mn_RX1, by decide, by decide, by decide⟩
theorem wv_X8_hour : WV RX8 yX8_hour cX8_hour 1 (some .int) 0 := ⟨mi_yX8_hour, ms_yX8_hour, mc_yX8_hour, mn_RX8, by decide, by decide, by decide⟩
theorem wv_X8_lacks : WV RX8 yX8_lacks cX8_lacks 1 (some .boolean) 0 := ⟨mi_yX8_lacks, ms_yX8_lacks, mc_yX8_lacks, mn_RX8, by decide, by decide, by decide⟩
theorem wv_X7_rain : WV RX7 yX7_rain cX7_rain 3 (some .int) 2 := ⟨mi_yX7_rain, ms_yX7_rain, mc_yX7_rain, mn_RX7, by decide, by decide, by decide⟩
theorem wv_X8_rain : WV RX8 yX8_rain cX8_rain 3 (some .int) 2 := ⟨mi_yX8_rain, ms_yX8_rain, mc_yX8_rain, mn_RX8, by decide, by decide, by decide⟩
theorem wv_X8_rains : WV RX8 yX8_rains cX8_rains 3 (some .int) 2 := ⟨mi_yX8_rains, ms_yX8_rains, mc_yX8_rains, mn_RX8, by decide, by decide, by decide⟩
theorem wv_X7_drought : WV RX7 yX7_drought cX7_drought 2 (some .int) 1 := ⟨mi_yX7_drought, ms_yX7_drought, mc_yX7_drought, mn_RX7, by decide, by decide, by decide⟩
theorem wv_X5_dryUp : WV RX5 yX5_dryUp cX5_dryUp 3 (some .int) 1 := ⟨mi_yX5_dryUp, ms_yX5_dryUp, mc_yX5_dryUp, mn_RX5, by decide, by decide, by decide⟩
theorem wv_X8_drought : WV RX8 yX8_drought cX8_drought 3 (some .int) 1 := ⟨mi_yX8_drought, ms_yX8_drought, mc_yX8_drought, mn_RX8, by decide, by decide, by decide⟩
theorem wv_X7_wide : WV RX7 yX7_wide cX7_wide 4 (some .int) 2 := ⟨mi_yX7_wide, ms_yX7_wide, mc_yX7_wide, mn_RX7, by decide, by decide, by decide⟩
theorem wv_X3_widestHour : WV RX3 yX3_widestHour cX3_widestHour 6 (some .int) 1 := ⟨mi_yX3_widestHour, ms_yX3_widestHour, mc_yX3_widestHour, mn_RX3, by decide, by decide, by decide⟩
theorem wv_X5_waterInAll : WV RX5 yX5_waterInAll cX5_waterInAll 1 (some .int) 0 := ⟨mi_yX5_waterInAll, ms_yX5_waterInAll, mc_yX5_waterInAll, mn_RX5, by decide, by decide, by decide⟩
theorem wv_X5_sumOfRivers : WV RX5 yX5_sumOfRivers cX5_sumOfRivers 4 (some .int) 1 := ⟨mi_yX5_sumOfRivers, ms_yX5_sumOfRivers, mc_yX5_sumOfRivers, mn_RX5, by decide, by decide, by decide⟩
theorem wv_X3_waterBehind : WV RX3 yX3_waterBehind cX3_waterBehind 3 (some .int) 1 := ⟨mi_yX3_waterBehind, ms_yX3_waterBehind, mc_yX3_waterBehind, mn_RX3, by decide, by decide, by decide⟩
theorem wv_X8_wide : WV RX8 yX8_wide cX8_wide 3 (some .int) 2 := ⟨mi_yX8_wide, ms_yX8_wide, mc_yX8_wide, mn_RX8, by decide, by decide, by decide⟩
theorem wv_X8_wideOf : WV RX8 yX8_wideOf cX8_wideOf 7 (some .int) 2 := ⟨mi_yX8_wideOf, ms_yX8_wideOf, mc_yX8_wideOf, mn_RX8, by decide, by decide, by decide⟩
theorem wv_X8_standing : WV RX8 yX8_standing cX8_standing 3 (some .int) 0 := ⟨mi_yX8_standing, ms_yX8_standing, mc_yX8_standing, mn_RX8, by decide, by decide, by decide⟩
theorem wv_X7_best : WV RX7 yX7_best cX7_best 3 (some .int) 1 := ⟨mi_yX7_best, ms_yX7_best, mc_yX7_best, mn_RX7, by decide, by decide, by decide⟩
theorem wv_X0_find : WV RX0 yX0_find cX0_find 3 none 0 := ⟨mi_yX0_find, ms_yX0_find, mc_yX0_find, mn_RX0, by decide, by decide, by decide⟩
theorem wv_X0_waterBehindOrder : WV RX0 yX0_waterBehindOrder cX0_waterBehindOrder 2 (some .int) 0 := ⟨mi_yX0_waterBehindOrder, ms_yX0_waterBehindOrder, mc_yX0_waterBehindOrder, mn_RX0, by decide, by decide, by decide⟩
theorem wv_X0_keepAsFound : WV RX0 yX0_keepAsFound cX0_keepAsFound 2 none 1 := ⟨mi_yX0_keepAsFound, ms_yX0_keepAsFound, mc_yX0_keepAsFound, mn_RX0, by decide, by decide, by decide⟩
theorem wv_X0_goToNextOrder : WV RX0 yX0_goToNextOrder cX0_goToNextOrder 6 (some .boolean) 0 := ⟨mi_yX0_goToNextOrder, ms_yX0_goToNextOrder, mc_yX0_goToNextOrder, mn_RX0, by decide, by decide, by decide⟩
theorem wv_X0_swap : WV RX0 yX0_swap cX0_swap 4 none 2 := ⟨mi_yX0_swap, ms_yX0_swap, mc_yX0_swap, mn_RX0, by decide, by decide, by decide⟩
theorem wv_X8_best : WV RX8 yX8_best cX8_best 3 (some .int) 1 := ⟨mi_yX8_best, ms_yX8_best, mc_yX8_best, mn_RX8, by decide, by decide, by decide⟩
theorem wv_X8_layBest : WV RX8 yX8_layBest cX8_layBest 6 (some .int) 0 := ⟨mi_yX8_layBest, ms_yX8_layBest, mc_yX8_layBest, mn_RX8, by decide, by decide, by decide⟩
theorem wv_X8_layStands : WV RX8 yX8_layStands cX8_layStands 5 (some .boolean) 1 := ⟨mi_yX8_layStands, ms_yX8_layStands, mc_yX8_layStands, mn_RX8, by decide, by decide, by decide⟩
theorem wv_X7_see : WV RX7 yX7_see cX7_see 4 (some .int) 3 := ⟨mi_yX7_see, ms_yX7_see, mc_yX7_see, mn_RX7, by decide, by decide, by decide⟩
theorem wv_X6_isFull : WV RX6 yX6_isFull cX6_isFull 1 (some .boolean) 0 := ⟨mi_yX6_isFull, ms_yX6_isFull, mc_yX6_isFull, mn_RX6, by decide, by decide, by decide⟩
theorem wv_X6_add : WV RX6 yX6_add cX6_add 4 (some .int) 3 := ⟨mi_yX6_add, ms_yX6_add, mc_yX6_add, mn_RX6, by decide, by decide, by decide⟩
theorem wv_X8_see : WV RX8 yX8_see cX8_see 4 (some .int) 3 := ⟨mi_yX8_see, ms_yX8_see, mc_yX8_see, mn_RX8, by decide, by decide, by decide⟩
theorem wv_X7_forget : WV RX7 yX7_forget cX7_forget 1 (some .int) 0 := ⟨mi_yX7_forget, ms_yX7_forget, mc_yX7_forget, mn_RX7, by decide, by decide, by decide⟩
theorem wv_X8_forget : WV RX8 yX8_forget cX8_forget 2 (some .int) 0 := ⟨mi_yX8_forget, ms_yX8_forget, mc_yX8_forget, mn_RX8, by decide, by decide, by decide⟩
theorem wv_X7_seasons : WV RX7 yX7_seasons cX7_seasons 5 (some .int) 3 := ⟨mi_yX7_seasons, ms_yX7_seasons, mc_yX7_seasons, mn_RX7, by decide, by decide, by decide⟩
theorem wv_X3_passSeasons : WV RX3 yX3_passSeasons cX3_passSeasons 7 (some .int) 2 := ⟨mi_yX3_passSeasons, ms_yX3_passSeasons, mc_yX3_passSeasons, mn_RX3, by decide, by decide, by decide⟩
theorem wv_X2_next : WV RX2 yX2_next cX2_next 2 (some .int) 1 := ⟨mi_yX2_next, ms_yX2_next, mc_yX2_next, mn_RX2, by decide, by decide, by decide⟩
theorem wv_X8_seasons : WV RX8 yX8_seasons cX8_seasons 8 (some .int) 3 := ⟨mi_yX8_seasons, ms_yX8_seasons, mc_yX8_seasons, mn_RX8, by decide, by decide, by decide⟩
theorem wv_X8_draw : WV RX8 yX8_draw cX8_draw 2 (some .int) 1 := ⟨mi_yX8_draw, ms_yX8_draw, mc_yX8_draw, mn_RX8, by decide, by decide, by decide⟩
theorem wv_X7_image : WV RX7 yX7_image cX7_image 1 (some .int) 0 := ⟨mi_yX7_image, ms_yX7_image, mc_yX7_image, mn_RX7, by decide, by decide, by decide⟩
theorem wv_X6_copyFrom : WV RX6 yX6_copyFrom cX6_copyFrom 3 none 1 := ⟨mi_yX6_copyFrom, ms_yX6_copyFrom, mc_yX6_copyFrom, mn_RX6, by decide, by decide, by decide⟩
theorem wv_X8_image : WV RX8 yX8_image cX8_image 1 (some .int) 0 := ⟨mi_yX8_image, ms_yX8_image, mc_yX8_image, mn_RX8, by decide, by decide, by decide⟩
theorem wv_X7_restore : WV RX7 yX7_restore cX7_restore 1 (some .int) 0 := ⟨mi_yX7_restore, ms_yX7_restore, mc_yX7_restore, mn_RX7, by decide, by decide, by decide⟩
theorem wv_X8_restore : WV RX8 yX8_restore cX8_restore 1 (some .int) 0 := ⟨mi_yX8_restore, ms_yX8_restore, mc_yX8_restore, mn_RX8, by decide, by decide, by decide⟩
theorem wv_X7_count : WV RX7 yX7_count cX7_count 2 (some .int) 1 := ⟨mi_yX7_count, ms_yX7_count, mc_yX7_count, mn_RX7, by decide, by decide, by decide⟩
theorem wv_X5_tookInAll : WV RX5 yX5_tookInAll cX5_tookInAll 1 (some .int) 0 := ⟨mi_yX5_tookInAll, ms_yX5_tookInAll, mc_yX5_tookInAll, mn_RX5, by decide, by decide, by decide⟩
theorem wv_X8_count : WV RX8 yX8_count cX8_count 2 (some .int) 1 := ⟨mi_yX8_count, ms_yX8_count, mc_yX8_count, mn_RX8, by decide, by decide, by decide⟩
theorem wv_X8_countOf : WV RX8 yX8_countOf cX8_countOf 2 (some .int) 1 := ⟨mi_yX8_countOf, ms_yX8_countOf, mc_yX8_countOf, mn_RX8, by decide, by decide, by decide⟩
theorem wv_X8_takenAll : WV RX8 yX8_takenAll cX8_takenAll 3 (some .int) 0 := ⟨mi_yX8_takenAll, ms_yX8_takenAll, mc_yX8_takenAll, mn_RX8, by decide, by decide, by decide⟩
theorem wv_X7_digest : WV RX7 yX7_digest cX7_digest 5 (some .long) 0 := ⟨mi_yX7_digest, ms_yX7_digest, mc_yX7_digest, mn_RX7, by decide, by decide, by decide⟩
theorem wv_X7_mixed : WS yX7_mixed cX7_mixed 4 (some .long) 2 := ⟨mt_yX7_mixed, mc_yX7_mixed, mn_RX7, by decide, by decide, by decide⟩
theorem wv_X8_digest : WV RX8 yX8_digest cX8_digest 3 (some .long) 0 := ⟨mi_yX8_digest, ms_yX8_digest, mc_yX8_digest, mn_RX8, by decide, by decide, by decide⟩
theorem wv_X8_say : WV RX8 yX8_say cX8_say 3 none 1 := ⟨mi_yX8_say, ms_yX8_say, mc_yX8_say, mn_RX8, by decide, by decide, by decide⟩
end
section
/-! ===== the pure side: numbers, rows of places, an hour ===== -/
section Pure1
theorem jle {a b : Nat} (ha : a < 2 ^ 31) (hb : b < 2 ^ 31) : nI a ≤ nI b ↔ a ≤ b := nI_leI ha hb
theorem jlt {a b : Nat} (ha : a < 2 ^ 31) (hb : b < 2 ^ 31) : nI a < nI b ↔ a < b := nI_ltI ha hb
theorem jeq {a b : Nat} (ha : a < 2 ^ 31) (hb : b < 2 ^ 31) : nI a = nI b ↔ a = b := nI_eq ha hb
theorem cpy_all {f g : Nat → Int32} {n j : Nat} (h : j < n) : va_cpy f g 0 0 n j = f j := sb_cpy0 h
def bI (b : Bool) : Int32 := if b then 1 else 0
theorem bI_nar (b : Bool) : narrow .boolean (.int (bI b)) = .int (bI b) := by cases b <;> rfl
theorem bI_0 {b : Bool} : bI b = 0 ↔ b = false := by cases b <;> decide
theorem bI_n0 {b : Bool} : ¬ bI b = 0 ↔ b = true := by cases b <;> decide
def ro (ρ : Nat → Nat) : Nat → Int32 := fun j => nI (ρ j)
def un (ρ : Nat → Nat) (k m : Nat) : Nat → Nat := fun j => if j = k then m else ρ j
theorem ro_un {ρ : Nat → Nat} {k m : Nat} (j : Nat) : upd (ro ρ) k (nI m) j = ro (un ρ k m) j := by
  unfold upd ro un
  by_cases h : j = k
  · rw [if_pos h, if_pos h]
  · rw [if_neg h, if_neg h]
theorem un_s (ρ : Nat → Nat) (k m : Nat) : un ρ k m k = m := if_pos rfl
theorem un_n {ρ : Nat → Nat} {k m j : Nat} (h : j ≠ k) : un ρ k m j = ρ j := if_neg h
theorem upd_s (f : Nat → Int32) (k : Nat) (x : Int32) : upd f k x k = x := if_pos rfl
theorem upd_n {f : Nat → Int32} {k j : Nat} {x : Int32} (h : j ≠ k) : upd f k x j = f j := if_neg h
/-- whether the number names one of so many -/
def hin (nv x : Int32) : Bool := !decide (x < 0) && !decide (nv ≤ x)
theorem hin_nI {n k : Nat} (h : k < n) (hn : n < 100) : hin (nI n) (nI k) = true := by
  unfold hin
  rw [Bool.and_eq_true, Bool.not_eq_true', Bool.not_eq_true', decide_eq_false_iff_not, decide_eq_false_iff_not]
  exact ⟨nI_pos (by omega), fun z => absurd ((jle (by omega) (by omega)).mp z) (by omega)⟩
theorem hin_of {n : Nat} {x : Int32} (h : hin (nI n) x = true) (hn : n < 100) : ∃ k : Nat, k < n ∧ x = nI k := by
  unfold hin at h
  rw [Bool.and_eq_true, Bool.not_eq_true', Bool.not_eq_true', decide_eq_false_iff_not, decide_eq_false_iff_not] at h
  rcases pk_ix x (n := n) (by omega) with z | z | z
  · exact absurd z h.1
  · exact absurd z h.2
  · exact z
def hcap (x : Int32) : Int32 := if 99 < x then 99 else x
/-- the waters grow, in the first i -/
def hgr (i : Nat) (F w : Nat → Int32) : Nat → Int32 := fun j => if j < i then hcap (w j + F j) else w j
theorem hgr_0 (F w : Nat → Int32) : hgr 0 F w = w := by funext j; exact if_neg (Nat.not_lt_zero j)
theorem hgr_s {i : Nat} {F w : Nat → Int32} (j : Nat) : upd (hgr i F w) i (hcap (hgr i F w i + F i)) j = hgr (i + 1) F w j := by
  unfold upd hgr
  by_cases h : j = i
  · subst h
    rw [if_pos rfl, if_neg (Nat.lt_irrefl _), if_pos (by omega)]
  · rw [if_neg h]
    by_cases h2 : j < i
    · rw [if_pos h2, if_pos (by omega)]
    · rw [if_neg h2, if_neg (by omega)]
/-- whether the one behind pushes by the one ahead -/
def hps (K w : Nat → Int32) (b a : Nat) : Bool :=
  if K b = 3 then false else if K a = 3 then decide (¬ w b ≤ 0) else if K b = 1 then decide (¬ w b ≤ w a) else if K b = 2 then false else if K b = 4 then decide (¬ w b < w a) else decide (¬ w b ≤ 2 * w a)
/-- all push, by the places 1 .. i -/
def hpp (K w : Nat → Int32) (ρ : Nat → Nat) : Nat → (Nat → Nat)
  | 0 => ρ
  | i + 1 => if hps K w (hpp K w ρ i (i + 1)) (hpp K w ρ i i) then un (un (hpp K w ρ i) i (hpp K w ρ i (i + 1))) (i + 1) (hpp K w ρ i i) else hpp K w ρ i
theorem hpp_lt {K w : Nat → Int32} {ρ : Nat → Nat} {n : Nat} (h : ∀ j, j < n → ρ j < n) : ∀ i, i < n → ∀ j, j < n → hpp K w ρ i j < n := by
  intro i
  induction i with
  | zero => intro _ j hj; exact h j hj
  | succ i ih =>
    intro hi j hj
    have ih := ih (by omega)
    show (if _ then _ else _ : Nat → Nat) j < n
    split
    · unfold un
      dsimp only
      by_cases h1 : j = i + 1
      · rw [if_pos h1]; exact ih i (by omega)
      · rw [if_neg h1]
        by_cases h2 : j = i
        · rw [if_pos h2]; exact ih (i + 1) hi
        · rw [if_neg h2]; exact ih j hj
    · exact ih j hj
theorem hpp_t {K w : Nat → Int32} {ρ : Nat → Nat} {i : Nat} (h : hps K w (hpp K w ρ i (i + 1)) (hpp K w ρ i i) = true) : hpp K w ρ (i + 1) = un (un (hpp K w ρ i) i (hpp K w ρ i (i + 1))) (i + 1) (hpp K w ρ i i) := if_pos h
theorem hpp_f {K w : Nat → Int32} {ρ : Nat → Nat} {i : Nat} (h : hps K w (hpp K w ρ i (i + 1)) (hpp K w ρ i i) = false) : hpp K w ρ (i + 1) = hpp K w ρ i := if_neg (by rw [h]; decide)
/-- the one at the place k goes behind all others -/
def hsb (n k : Nat) (ρ : Nat → Nat) : Nat → Nat := fun j => if k ≤ j ∧ j < n - 1 then ρ (j + 1) else if j = n - 1 then ρ k else ρ j
def hsbi (k i : Nat) (ρ : Nat → Nat) : Nat → Nat := fun j => if k ≤ j ∧ j < i then ρ (j + 1) else ρ j
theorem hsbi_0 (k : Nat) (ρ : Nat → Nat) : hsbi k k ρ = ρ := by funext j; exact if_neg (by omega)
theorem hsbi_s {k i : Nat} {ρ : Nat → Nat} (h : k ≤ i) (j : Nat) : un (hsbi k i ρ) i (hsbi k i ρ (i + 1)) j = hsbi k (i + 1) ρ j := by
  unfold un hsbi
  by_cases h1 : j = i
  · subst h1
    rw [if_pos rfl, if_neg (by omega), if_pos (by omega)]
  · rw [if_neg h1]
    by_cases h2 : k ≤ j ∧ j < i
    · rw [if_pos h2, if_pos (by omega)]
    · rw [if_neg h2, if_neg (by omega)]
theorem hsbi_e {n k : Nat} {ρ : Nat → Nat} (h : k < n) (j : Nat) : un (hsbi k (n - 1) ρ) (n - 1) (ρ k) j = hsb n k ρ j := by
  unfold un hsbi hsb
  by_cases h1 : j = n - 1
  · subst h1
    rw [if_pos rfl, if_neg (by omega), if_pos rfl]
  · rw [if_neg h1]
    by_cases h2 : k ≤ j ∧ j < n - 1
    · rw [if_pos h2, if_pos h2]
    · rw [if_neg h2, if_neg h2, if_neg h1]
def hmu (bar : Int32) (w : Nat → Int32) (f : Nat) : Int32 := if w f < bar then w f else bar
def hto (bar : Int32) (w : Nat → Int32) (f : Nat) : Int32 := if hmu bar w f ≤ 0 then -1 else nI f
/-- an hour: who is first behind the pushing; the waters, the row, of which one the sea took, how much -/
def hfi (n : Nat) (K F w : Nat → Int32) (ρ : Nat → Nat) : Nat := hpp K (hgr n F w) ρ (n - 1) 0
def hmm (n : Nat) (K F : Nat → Int32) (bar : Int32) (w : Nat → Int32) (ρ : Nat → Nat) : Int32 := hmu bar (hgr n F w) (hfi n K F w ρ)
def hww (n : Nat) (K F : Nat → Int32) (bar : Int32) (w : Nat → Int32) (ρ : Nat → Nat) : Nat → Int32 := upd (hgr n F w) (hfi n K F w ρ) (hgr n F w (hfi n K F w ρ) - hmm n K F bar w ρ)
def hrr (n : Nat) (K F : Nat → Int32) (bar : Int32) (w : Nat → Int32) (ρ : Nat → Nat) : Nat → Nat := if hgr n F w (hfi n K F w ρ) - hmm n K F bar w ρ = 0 then hsb n 0 (hpp K (hgr n F w) ρ (n - 1)) else hpp K (hgr n F w) ρ (n - 1)
def hoo (n : Nat) (K F : Nat → Int32) (bar : Int32) (w : Nat → Int32) (ρ : Nat → Nat) : Int32 := hto bar (hgr n F w) (hfi n K F w ρ)
def htt (n : Nat) (K F : Nat → Int32) (bar : Int32) (w : Nat → Int32) (ρ : Nat → Nat) (tk : Nat → Int32) : Nat → Int32 := upd tk (hfi n K F w ρ) (tk (hfi n K F w ρ) + hmm n K F bar w ρ)
/-- all that stands in the first i -/
def hsum (w : Nat → Int32) : Nat → Int32
  | 0 => 0
  | i + 1 => hsum w i + w i
/-- the first place of so many where k stands, from i on -/
def hpl (ρ : Nat → Nat) (k : Nat) (n : Nat) : Nat → Nat → Int32
  | 0, _ => -1
  | fu + 1, i => if i < n then (if ρ i = k then nI i else hpl ρ k n fu (i + 1)) else -1
theorem r_top {p : Program} {l : Launch} {e : Env} {R : Room} {s : State} {m : MethodId} {args : Array Value} {below : List Frame} {meth : Method} {c : Code} {H : Heap} {locs : List Loc} {cells slots : Nat} {Q : State → Prop} {pc : Nat} {ls : Array Slot} {rest : List Value} {x y : Int32} (h : x = y) (k : W p l e R s m args below meth c H locs cells slots Q (F0 m pc ls (.int y :: rest))) : W p l e R s m args below meth c H locs cells slots Q (F0 m pc ls (.int x :: rest)) := by
  subst h; exact k
theorem r_topl {p : Program} {l : Launch} {e : Env} {R : Room} {s : State} {m : MethodId} {args : Array Value} {below : List Frame} {meth : Method} {c : Code} {H : Heap} {locs : List Loc} {cells slots : Nat} {Q : State → Prop} {pc : Nat} {ls : Array Slot} {rest : List Value} {x y : Int64} (h : x = y) (k : W p l e R s m args below meth c H locs cells slots Q (F0 m pc ls (.long y :: rest))) : W p l e R s m args below meth c H locs cells slots Q (F0 m pc ls (.long x :: rest)) := by
  subst h; exact k
end Pure1
end
section
/-! ===== the pure side: going behind, one by one; places ===== -/
section Pure2
theorem un_comm {ρ : Nat → Nat} {i j a b : Nat} (h : i ≠ j) : un (un ρ i a) j b = un (un ρ j b) i a := by
  funext k
  unfold un
  by_cases h1 : k = j
  · subst h1
    rw [if_pos rfl, if_neg (fun z => h z.symm), if_pos rfl]
  · rw [if_neg h1]
    by_cases h2 : k = i
    · rw [if_pos h2, if_pos h2]
    · rw [if_neg h2, if_neg h2, if_neg h1]
theorem un_id (ρ : Nat → Nat) (i : Nat) : un ρ i (ρ i) = ρ := by
  funext k
  unfold un
  by_cases h1 : k = i
  · subst h1; rw [if_pos rfl]
  · rw [if_neg h1]
theorem un_idv {ρ : Nat → Nat} {i a : Nat} (e : a = ρ i) (j : Nat) : un ρ i a j = ρ j := by rw [e, un_id]
def gbn (q i : Nat) : Nat := if i ≤ q then i else i - 1
def gbk (q i : Nat) (ρ : Nat → Nat) : Nat → Nat := if i ≤ q then ρ else hsbi q (i - 1) ρ
theorem gbn_le (q i : Nat) : gbn q i ≤ i := by unfold gbn; split <;> omega
theorem gbn_0 (q : Nat) : gbn q 0 = 0 := by unfold gbn; split <;> omega
theorem gbk_0 (q : Nat) (ρ : Nat → Nat) : gbk q 0 ρ = ρ := by unfold gbk; rw [if_pos (Nat.zero_le _)]
theorem gbk_at (q i : Nat) (ρ : Nat → Nat) : gbk q i ρ i = ρ i := by
  unfold gbk
  split
  · rfl
  · unfold hsbi
    rw [if_neg (by omega)]
theorem gbn_ne {q i : Nat} (h : i ≠ q) : gbn q (i + 1) = gbn q i + 1 := by
  unfold gbn
  by_cases h1 : i ≤ q
  · rw [if_pos h1, if_pos (by omega)]
  · rw [if_neg h1, if_neg (by omega)]; omega
theorem gbn_eq (q : Nat) : gbn q (q + 1) = gbn q q := by
  unfold gbn
  rw [if_neg (by omega), if_pos (Nat.le_refl _)]; omega
theorem gbk_ne {q i : Nat} {ρ : Nat → Nat} (h : i ≠ q) : un (gbk q i ρ) (gbn q i) (ρ i) = gbk q (i + 1) ρ := by
  unfold gbn gbk
  by_cases h1 : i ≤ q
  · rw [if_pos h1, if_pos h1, if_pos (by omega)]
    exact un_id ρ i
  · rw [if_neg h1, if_neg h1, if_neg (by omega)]
    have e : i - 1 + 1 = i := by omega
    have g := fun j => hsbi_s (k := q) (i := i - 1) (ρ := ρ) (by omega) j
    rw [e] at g
    have e2 : hsbi q (i - 1) ρ i = ρ i := by unfold hsbi; rw [if_neg (by omega)]
    rw [e2] at g
    funext j
    exact g j
theorem gbk_eq (q : Nat) (ρ : Nat → Nat) : gbk q (q + 1) ρ = gbk q q ρ := by
  unfold gbk
  rw [if_neg (by omega), if_pos (Nat.le_refl _)]
  exact hsbi_0 q ρ
theorem gbk_e {q n : Nat} {ρ : Nat → Nat} (h : q < n) : gbk q n ρ = hsbi q (n - 1) ρ := by
  unfold gbk
  rw [if_neg (by omega)]
theorem hcap_t {x : Int32} (h : x ≤ 99) : hcap x = x := if_neg (fun z => by rw [Int32.lt_iff_toInt_lt] at z; rw [Int32.le_iff_toInt_le] at h; omega)
theorem hcap_f {x : Int32} (h : ¬ x ≤ 99) : hcap x = 99 := if_pos (by rw [Int32.le_iff_toInt_le] at h; rw [Int32.lt_iff_toInt_lt]; omega)
theorem hmu_t {bar : Int32} {w : Nat → Int32} {f : Nat} (h : ¬ bar ≤ w f) : hmu bar w f = w f := if_pos (by rw [Int32.le_iff_toInt_le] at h; rw [Int32.lt_iff_toInt_lt]; omega)
theorem hmu_f {bar : Int32} {w : Nat → Int32} {f : Nat} (h : bar ≤ w f) : hmu bar w f = bar := if_neg (fun z => by rw [Int32.lt_iff_toInt_lt] at z; rw [Int32.le_iff_toInt_le] at h; omega)
def hps2 (K w : Nat → Int32) (b a : Nat) : Bool :=
  if K b = 3 then false else if K a = 3 then decide (¬ w b ≤ 0) else if K b = 0 then decide (¬ w b ≤ 2 * w a) else if K b = 1 then decide (¬ w b ≤ w a) else if K b = 4 then decide (¬ w b < w a) else false
theorem hps2_eq {K w : Nat → Int32} {b a : Nat} (h : K b = 0 ∨ K b = 1 ∨ K b = 2 ∨ K b = 3 ∨ K b = 4) : hps2 K w b a = hps K w b a := by
  unfold hps2 hps
  rcases h with z | z | z | z | z <;> rw [z] <;> simp
def lin (v lo hi : Int64) : Bool := !decide (lg_cmp v lo < 0) && !decide (0 < lg_cmp v hi)
theorem lin_eq (v lo hi : Int64) : lin v lo hi = (decide (lo ≤ v) && decide (v ≤ hi)) := by
  have e1 : (lg_cmp v lo < 0) ↔ ¬ lo ≤ v := by
    rw [← lg_cmp_ge v lo, Int32.not_le]
  have e2 : (0 < lg_cmp v hi) ↔ ¬ v ≤ hi := by
    unfold lg_cmp
    simp only [gt_iff_lt, Int64.lt_iff_toInt_lt, Int64.le_iff_toInt_le, ← Int64.toInt_inj]
    split
    · simp; omega
    · split <;> simp <;> omega
  unfold lin
  by_cases a : lo ≤ v <;> by_cases b : v ≤ hi
  · rw [decide_eq_false (fun z => (e1.mp z) a), decide_eq_false (fun z => (e2.mp z) b), decide_eq_true a, decide_eq_true b]; rfl
  · rw [decide_eq_false (fun z => (e1.mp z) a), decide_eq_true (e2.mpr b), decide_eq_true a, decide_eq_false b]; rfl
  · rw [decide_eq_true (e1.mpr a), decide_eq_false (fun z => (e2.mp z) b), decide_eq_false a, decide_eq_true b]; rfl
  · rw [decide_eq_true (e1.mpr a), decide_eq_true (e2.mpr b), decide_eq_false a, decide_eq_false b]; rfl
theorem lin_i {x lo hi : Int32} : lin x.toInt64 lo.toInt64 hi.toInt64 = (decide (lo ≤ x) && decide (x ≤ hi)) := by
  rw [lin_eq]
  simp only [Int64.le_iff_toInt_le, Int32.le_iff_toInt_le, Int32.toInt_toInt64]
theorem lin_hin {n : Nat} (hn : n < 100) (x : Int32) : lin x.toInt64 0 (nI n - 1).toInt64 = hin (nI n) x := by
  have e0 : (0 : Int64) = (0 : Int32).toInt64 := by decide
  rw [e0, lin_i]
  unfold hin
  have h1 : (nI n - 1).toInt = (n : Int) - 1 := by
    have := pk_sub_toInt (a := n) (b := 1) (by omega) (by omega)
    exact this
  have h2 : (nI n).toInt = (n : Int) := nI_toInt (by omega)
  have q1 : ((0 : Int32) ≤ x) ↔ ¬ (x < 0) := by rw [Int32.not_lt]
  have q2 : (x ≤ nI n - 1) ↔ ¬ (nI n ≤ x) := by
    rw [Int32.le_iff_toInt_le, Int32.le_iff_toInt_le, h1, h2]; omega
  by_cases a : x < 0 <;> by_cases b : nI n ≤ x
  · rw [decide_eq_false (fun z => (q1.mp z) a), decide_eq_true a]; rfl
  · rw [decide_eq_false (fun z => (q1.mp z) a), decide_eq_true a]; rfl
  · rw [decide_eq_true (q1.mpr a), decide_eq_false (fun z => (q2.mp z) b), decide_eq_false a, decide_eq_true b]; rfl
  · rw [decide_eq_true (q1.mpr a), decide_eq_true (q2.mpr b), decide_eq_false a, decide_eq_false b]; rfl
theorem cpy_0 {f g : Nat → Int32} (j : Nat) : g j = va_cpy f g 0 0 0 j := by
  unfold va_cpy
  rw [if_neg (by omega)]
theorem cpy_s {f g : Nat → Int32} {i : Nat} (j : Nat) : upd (va_cpy f g 0 0 i) i (f i) j = va_cpy f g 0 0 (i + 1) j := by
  unfold upd va_cpy
  by_cases h : j = i
  · subst h
    rw [if_pos rfl, if_pos (by omega)]
    congr 1; omega
  · rw [if_neg h]
    by_cases h2 : 0 ≤ j ∧ j < 0 + i
    · rw [if_pos h2, if_pos (by omega)]
    · rw [if_neg h2, if_neg (by omega)]
def pmo (q i : Nat) : Int32 := if q < i then nI q else -1
theorem pmo_0 (q : Nat) : pmo q 0 = -1 := if_neg (Nat.not_lt_zero q)
theorem pmo_e (q : Nat) : nI q = pmo q (q + 1) := (if_pos (Nat.lt_succ_self q)).symm
theorem pmo_n {q i : Nat} (h : i ≠ q) : pmo q i = pmo q (i + 1) := by
  unfold pmo
  by_cases h1 : q < i
  · rw [if_pos h1, if_pos (by omega)]
  · rw [if_neg h1, if_neg (by omega)]
/-- the row: each place holds one of so many, no two the same, each stands somewhere -/
def PM (n : Nat) (ρ : Nat → Nat) : Prop := (∀ j, j < n → ρ j < n) ∧ (∀ i j, i < n → j < n → ρ i = ρ j → i = j) ∧ (∀ k, k < n → ∃ j, j < n ∧ ρ j = k)
theorem PM.id (n : Nat) {ρ : Nat → Nat} (h : ∀ j, j < n → ρ j = j) : PM n ρ := ⟨fun j hj => by rw [h j hj]; exact hj, fun i j hi hj e => by rw [h i hi, h j hj] at e; exact e, fun k hk => ⟨k, hk, h k hk⟩⟩
theorem PM.congr {n : Nat} {ρ σ : Nat → Nat} (h : PM n ρ) (e : ∀ j, j < n → σ j = ρ j) : PM n σ := ⟨fun j hj => by rw [e j hj]; exact h.1 j hj, fun i j hi hj q => by rw [e i hi, e j hj] at q; exact h.2.1 i j hi hj q, fun k hk => by obtain ⟨j, hj, q⟩ := h.2.2 k hk; exact ⟨j, hj, by rw [e j hj]; exact q⟩⟩
/-- the places re-numbered -/
theorem PM.comp {n : Nat} {ρ τ : Nat → Nat} (h : PM n ρ) (t : PM n τ) : PM n (fun j => ρ (τ j)) := ⟨fun j hj => h.1 _ (t.1 j hj), fun i j hi hj q => t.2.1 i j hi hj (h.2.1 _ _ (t.1 i hi) (t.1 j hj) q), fun k hk => by
  obtain ⟨j, hj, q⟩ := h.2.2 k hk
  obtain ⟨i, hi, q2⟩ := t.2.2 j hj
  exact ⟨i, hi, by show ρ (τ i) = k; rw [q2]; exact q⟩⟩
theorem PM.swap {n i : Nat} {ρ : Nat → Nat} (h : PM n ρ) (hi : i + 1 < n) : PM n (un (un ρ i (ρ (i + 1))) (i + 1) (ρ i)) := by
  have t : PM n (fun j => if j = i then i + 1 else if j = i + 1 then i else j) := by
    refine ⟨fun j hj => ?_, fun a b ha hb q => ?_, fun k hk => ?_⟩
    · dsimp only; split
      · omega
      · split <;> omega
    · dsimp only at q
      by_cases a1 : a = i <;> by_cases a2 : a = i + 1 <;> by_cases b1 : b = i <;> by_cases b2 : b = i + 1 <;> simp [a1, a2, b1, b2] at q <;> omega
    · by_cases k1 : k = i
      · exact ⟨i + 1, hi, by dsimp only; rw [if_neg (by omega), if_pos rfl, k1]⟩
      · by_cases k2 : k = i + 1
        · exact ⟨i, by omega, by dsimp only; rw [if_pos rfl, k2]⟩
        · exact ⟨k, hk, by dsimp only; rw [if_neg k1, if_neg k2]⟩
  refine (h.comp t).congr (fun j hj => ?_)
  unfold un
  by_cases j1 : j = i + 1
  · subst j1
    rw [if_pos rfl, if_neg (by omega), if_pos rfl]
  · rw [if_neg j1]
    by_cases j2 : j = i
    · subst j2; rw [if_pos rfl, if_pos rfl]
    · rw [if_neg j2, if_neg j2, if_neg j1]
theorem PM.hpp {n : Nat} {K w : Nat → Int32} {ρ : Nat → Nat} (h : PM n ρ) : ∀ i, i < n → PM n (hpp K w ρ i) := by
  intro i
  induction i with
  | zero => intro _; exact h
  | succ i ih =>
    intro hi
    have ih := ih (by omega)
    cases e : hps K w (Jvm.Pilot.CRiversQueueLaw_law_r2044_ed36ba.hpp K w ρ i (i + 1)) (Jvm.Pilot.CRiversQueueLaw_law_r2044_ed36ba.hpp K w ρ i i) with
    | true => rw [hpp_t e]; exact ih.swap hi
    | false => rw [hpp_f e]; exact ih
theorem PM.hsb {n q : Nat} {ρ : Nat → Nat} (h : PM n ρ) (hq : q < n) : PM n (hsb n q ρ) := by
  have t : PM n (fun j => if q ≤ j ∧ j < n - 1 then j + 1 else if j = n - 1 then q else j) := by
    refine ⟨fun j hj => ?_, fun a b ha hb e => ?_, fun k hk => ?_⟩
    · dsimp only; split
      · omega
      · split <;> omega
    · dsimp only at e
      by_cases a1 : q ≤ a ∧ a < n - 1 <;> by_cases b1 : q ≤ b ∧ b < n - 1 <;> by_cases a2 : a = n - 1 <;> by_cases b2 : b = n - 1 <;> simp only [a1, b1, a2, b2, if_true, if_false, and_self, and_true, true_and] at e <;> first | omega | (split at e <;> first | omega | (split at e <;> omega))
    · by_cases k1 : k = q
      · exact ⟨n - 1, by omega, by dsimp only; rw [if_neg (by omega), if_pos rfl, k1]⟩
      · by_cases k2 : q < k
        · exact ⟨k - 1, by omega, by dsimp only; rw [if_pos (by omega)]; omega⟩
        · exact ⟨k, hk, by dsimp only; rw [if_neg (by omega), if_neg (by omega)]⟩
  refine (h.comp t).congr (fun j hj => ?_)
  unfold Jvm.Pilot.CRiversQueueLaw_law_r2044_ed36ba.hsb
  split
  · rfl
  · split <;> rfl
end Pure2
end
section
/-! ===== the pure side: hours to come, what is seen, draws ===== -/
section Pure3
theorem wb_tb (n : Nat) : (lN n).toBitVec = BitVec.ofNat 64 n := rfl
theorem wb_inj {a b : Int64} (h : a.toBitVec = b.toBitVec) : a = b := Int64.toBitVec_inj.mp h
theorem wb_of (x : Int64) : ∃ n, n < 2 ^ 64 ∧ x = lN n := ⟨x.toBitVec.toNat, x.toBitVec.isLt, wb_inj (by rw [wb_tb]; simp)⟩
theorem wb_lt2 {a b : Nat} (h : a < b) : 2 ^ a < 2 ^ b := Nat.pow_lt_pow_right (by decide) h
theorem wb_and {a b : Nat} (ha : a < 2 ^ 64) (hb : b < 2 ^ 64) : lN a &&& lN b = lN (a &&& b) := by
  apply wb_inj
  rw [Int64.toBitVec_and, wb_tb, wb_tb, wb_tb]
  apply BitVec.eq_of_toNat_eq
  rw [BitVec.toNat_and, BitVec.toNat_ofNat, BitVec.toNat_ofNat, BitVec.toNat_ofNat, Nat.mod_eq_of_lt ha, Nat.mod_eq_of_lt hb, Nat.mod_eq_of_lt (Nat.and_lt_two_pow _ hb)]
theorem wb_mask {n k : Nat} (hn : n < 2 ^ 64) (hk : k < 64) : lN n &&& lN (2 ^ k - 1) = lN (n % 2 ^ k) := by
  rw [wb_and hn (by have := wb_lt2 hk; omega), Nat.and_two_pow_sub_one_eq_mod]
variable (n : Nat) (K F : Nat → Int32) (bar : Int32) (w : Nat → Int32) (ρ : Nat → Nat)
/-- behind k hours -/
def hit : Nat → (Nat → Int32) × (Nat → Nat)
  | 0 => (w, ρ)
  | k + 1 => (hww n K F bar (hit k).1 (hit k).2, hrr n K F bar (hit k).1 (hit k).2)
/-- of which one the sea takes in the hour k + 1 -/
def hof (k : Nat) : Int32 := hoo n K F bar (hit n K F bar w ρ k).1 (hit n K F bar w ρ k).2
/-- what stands behind k hours -/
def hsm (k : Nat) : Int32 := hsum (hit n K F bar w ρ k).1 n
def hwt (x : Int32) : Nat → Nat → Int32
  | 0, _ => -1
  | fu + 1, k => if hof n K F bar w ρ k = x then nI (k + 1) else hwt x fu (k + 1)
def hwd : Nat → Int32 × Int32
  | 0 => (-1, -1)
  | k + 1 => if hsm n K F bar w ρ (k + 1) ≤ (hwd k).2 then hwd k else (nI (k + 1), hsm n K F bar w ρ (k + 1))
/-- of which one the sea would take in the hour h -/
def htk (h : Nat) : Int32 := hof n K F bar w ρ (h - 1)
variable {n K F bar w ρ}
theorem PM.hrr (h : PM n ρ) (hn : 2 ≤ n) : PM n (hrr n K F bar w ρ) := by
  unfold Jvm.Pilot.CRiversQueueLaw_law_r2044_ed36ba.hrr
  have h1 := h.hpp (K := K) (w := hgr n F w) (n - 1) (by omega)
  split
  · exact h1.hsb (by omega)
  · exact h1
theorem PM.hit (h : PM n ρ) (hn : 2 ≤ n) : ∀ k, PM n (hit n K F bar w ρ k).2
  | 0 => h
  | k + 1 => (PM.hit h hn k).hrr hn
theorem hwt_s {x : Int32} {k : Nat} (h : k < 60) : hwt n K F bar w ρ x (60 - k) k = if hof n K F bar w ρ k = x then nI (k + 1) else hwt n K F bar w ρ x (60 - (k + 1)) (k + 1) := by
  have e : 60 - k = (60 - (k + 1)) + 1 := by omega
  rw [e]
  rfl
def ffl (f g : Nat → Int32) (i : Nat) : Nat → Int32 := fun k => if k < i then f k else g k
theorem ffl_0 (f g : Nat → Int32) (j : Nat) : g j = ffl f g 0 j := (if_neg (Nat.not_lt_zero j)).symm
theorem ffl_in {f g : Nat → Int32} {i j : Nat} (h : j < i) : ffl f g i j = f j := if_pos h
theorem ffl_s (f g : Nat → Int32) (i j : Nat) : upd (ffl f g i) i (f i) j = ffl f g (i + 1) j := by
  unfold upd ffl
  by_cases h : j = i
  · subst h
    rw [if_pos rfl, if_pos (by omega)]
  · rw [if_neg h]
    by_cases h2 : j < i
    · rw [if_pos h2, if_pos (by omega)]
    · rw [if_neg h2, if_neg (by omega)]
def hfl (T g : Nat → Int32) (k : Nat) : Nat → Int32 := fun h => if 1 ≤ h ∧ h ≤ k then T h else g h
theorem hfl_0 (T g : Nat → Int32) (j : Nat) : g j = hfl T g 0 j := by unfold hfl; rw [if_neg (by omega)]
theorem hfl_s {T g : Nat → Int32} {k : Nat} (j : Nat) : upd (hfl T g k) (k + 1) (T (k + 1)) j = hfl T g (k + 1) j := by
  unfold upd hfl
  by_cases h : j = k + 1
  · subst h
    rw [if_pos rfl, if_pos (by omega)]
  · rw [if_neg h]
    by_cases h2 : 1 ≤ j ∧ j ≤ k
    · rw [if_pos h2, if_pos (by omega)]
    · rw [if_neg h2, if_neg (by omega)]
/-- whether all that is seen would be so -/
def hag (T : Nat → Int32) (sh sr : Nat → Nat) (tb : Nat → Int32) : Nat → Bool
  | 0 => true
  | i + 1 => hag T sh sr tb i && decide ((if T (sh i) = nI (sr i) then (1 : Int32) else 0) = tb i)
theorem hag_t {T : Nat → Int32} {sh sr : Nat → Nat} {tb : Nat → Int32} {i : Nat} (h : hag T sh sr tb i = true) (e : (if T (sh i) = nI (sr i) then (1 : Int32) else 0) = tb i) : hag T sh sr tb (i + 1) = true := by
  show (hag T sh sr tb i && decide _) = true
  rw [h, decide_eq_true e]; rfl
theorem hag_f {T : Nat → Int32} {sh sr : Nat → Nat} {tb : Nat → Int32} {i : Nat} (e : ¬ (if T (sh i) = nI (sr i) then (1 : Int32) else 0) = tb i) : ∀ q, i < q → hag T sh sr tb q = false := by
  intro q
  induction q with
  | zero => intro h; omega
  | succ q ih =>
    intro h
    show (hag T sh sr tb q && decide _) = false
    by_cases hq : i = q
    · subst hq
      rw [decide_eq_false e, Bool.and_false]
    · rw [ih (by omega), Bool.false_and]
theorem hag_congr {T T' : Nat → Int32} {sh sr : Nat → Nat} {tb : Nat → Int32} : ∀ q, (∀ i, i < q → T (sh i) = T' (sh i)) → hag T sh sr tb q = hag T' sh sr tb q := by
  intro q
  induction q with
  | zero => intro _; rfl
  | succ q ih =>
    intro h
    show (hag T sh sr tb q && decide _) = (hag T' sh sr tb q && decide _)
    rw [ih (fun i hi => h i (by omega)), h q (by omega)]
theorem hag_fl {T g : Nat → Int32} {sh sr : Nat → Nat} {tb : Nat → Int32} {q : Nat} (h : ∀ i, i < q → 1 ≤ sh i ∧ sh i ≤ 12) : hag (hfl T g 12) sh sr tb q = hag T sh sr tb q := hag_congr q (fun i hi => if_pos (h i hi))
variable (n K F bar w ρ) (sh sr : Nat → Nat) (tb : Nat → Int32) (q rr : Nat)
/-- whether v can be the water of rr -/
def hpo (v : Nat) : Bool := hag (htk n K F bar (upd w rr (nI v)) ρ) sh sr tb q
def hbt : Nat → Int32
  | 0 => 0
  | v + 1 => if hpo n K F bar w ρ sh sr tb q rr v = true then hbt v ||| (1 <<< (nI v &&& 31)) else hbt v
def hct : Nat → Nat
  | 0 => 0
  | v + 1 => if hpo n K F bar w ρ sh sr tb q rr v = true then hct v + 1 else hct v
def hyr (T : Nat → Int32) (rr : Nat) (g : Nat → Nat) (k : Nat) : Nat → Nat := fun h => if 1 ≤ h ∧ h ≤ k ∧ T h = nI rr then g h + 1 else g h
def hys : Nat → Nat → Nat
  | 0 => fun _ => 0
  | v + 1 => if hpo n K F bar w ρ sh sr tb q rr v = true then hyr (htk n K F bar (upd w rr (nI v)) ρ) rr (hys v) 12 else hys v
variable {n K F bar w ρ sh sr tb q rr}
theorem hyr_0 (T : Nat → Int32) (rr : Nat) (g : Nat → Nat) (j : Nat) : g j = hyr T rr g 0 j := by unfold hyr; rw [if_neg (by omega)]
theorem hyr_t {T : Nat → Int32} {g : Nat → Nat} {k : Nat} (e : T (k + 1) = nI rr) (j : Nat) : un (hyr T rr g k) (k + 1) (g (k + 1) + 1) j = hyr T rr g (k + 1) j := by
  unfold un hyr
  by_cases h : j = k + 1
  · subst h
    rw [if_pos rfl, if_pos ⟨by omega, by omega, e⟩]
  · rw [if_neg h]
    by_cases h2 : 1 ≤ j ∧ j ≤ k ∧ T j = nI rr
    · rw [if_pos h2, if_pos ⟨h2.1, by omega, h2.2.2⟩]
    · rw [if_neg h2, if_neg (fun z => h2 ⟨z.1, by omega, z.2.2⟩)]
theorem hyr_f {T : Nat → Int32} {g : Nat → Nat} {k : Nat} (e : ¬ T (k + 1) = nI rr) (j : Nat) : hyr T rr g k j = hyr T rr g (k + 1) j := by
  unfold hyr
  by_cases h2 : 1 ≤ j ∧ j ≤ k ∧ T j = nI rr
  · rw [if_pos h2, if_pos ⟨h2.1, by omega, h2.2.2⟩]
  · rw [if_neg h2, if_neg]
    intro z
    by_cases h : j = k + 1
    · subst h; exact e z.2.2
    · exact h2 ⟨z.1, by omega, z.2.2⟩
theorem hyr_at (T : Nat → Int32) (g : Nat → Nat) (k : Nat) : hyr T rr g k (k + 1) = g (k + 1) := if_neg (by omega)
theorem hyr_fl {T g' : Nat → Int32} {g : Nat → Nat} (j : Nat) : hyr (hfl T g' 12) rr g 12 j = hyr T rr g 12 j := by
  unfold hyr
  by_cases h : 1 ≤ j ∧ j ≤ 12
  · have e : hfl T g' 12 j = T j := if_pos h
    rw [e]
  · rw [if_neg (fun z => h ⟨z.1, z.2.1⟩), if_neg (fun z => h ⟨z.1, z.2.1⟩)]
theorem hys_le : ∀ v h, hys n K F bar w ρ sh sr tb q rr v h ≤ hct n K F bar w ρ sh sr tb q rr v := by
  intro v
  induction v with
  | zero => intro h; exact Nat.le_refl _
  | succ v ih =>
    intro h
    show (if _ then _ else _ : Nat → Nat) h ≤ (if _ then _ else _ : Nat)
    split
    · have := ih h
      show (if _ then _ else _ : Nat) ≤ _
      split
      · exact Nat.succ_le_succ this
      · exact Nat.le_succ_of_le this
    · exact ih h
theorem hct_le : ∀ v, hct n K F bar w ρ sh sr tb q rr v ≤ v := by
  intro v
  induction v with
  | zero => exact Nat.le_refl _
  | succ v ih =>
    show (if _ then _ else _ : Nat) ≤ v + 1
    split
    · exact Nat.succ_le_succ ih
    · exact Nat.le_succ_of_le ih
def hlf (p : Nat) (g : Nat → Nat) (h : Nat) : Nat := if g h < p - g h then p - g h else g h
theorem hlf_le {p : Nat} {g : Nat → Nat} {h : Nat} (hg : g h ≤ p) : hlf p g h ≤ p := by unfold hlf; split <;> omega
theorem hlf_e {p : Nat} {g : Nat → Nat} {h : Nat} (hg : g h ≤ p) (hp : p ≤ 10) : (if nI (g h) < nI (p - g h) then nI (p - g h) else nI (g h)) = nI (hlf p g h) := by
  unfold hlf
  by_cases c : g h < p - g h
  · rw [if_pos c, if_pos ((jlt (by omega) (by omega)).mpr c)]
  · rw [if_neg c, if_neg (fun z => c ((jlt (by omega) (by omega)).mp z))]
/-- the hour to look in, among the first h, and what is left at worst -/
def hbs (p : Nat) (g : Nat → Nat) (st : Nat) : Nat → Int32 × Nat
  | 0 => (-1, st)
  | h + 1 => if hlf p g (h + 1) < (hbs p g st h).2 then (nI (h + 1), hlf p g (h + 1)) else hbs p g st h
theorem hbs_le {p : Nat} {g : Nat → Nat} {st : Nat} (hg : ∀ h, g h ≤ p) : ∀ h, (hbs p g st h).2 ≤ p + st := by
  intro h
  induction h with
  | zero => exact Nat.le_add_left _ _
  | succ h ih =>
    show (if _ then _ else _ : Int32 × Nat).2 ≤ _
    have := hlf_le (hg (h + 1))
    split
    · show hlf p g (h + 1) ≤ _; omega
    · exact ih
theorem hbs_st {p : Nat} {g : Nat → Nat} {s1 s2 : Nat} (hg : ∀ h, g h ≤ p) (h1 : p < s1) (h2 : p < s2) : ∀ h, hbs p g s1 (h + 1) = hbs p g s2 (h + 1) := by
  intro h
  induction h with
  | zero =>
    have := hlf_le (hg (0 + 1))
    show (if hlf p g (0 + 1) < s1 then _ else _ : Int32 × Nat) = (if hlf p g (0 + 1) < s2 then _ else _ : Int32 × Nat)
    rw [if_pos (by omega), if_pos (by omega)]
  | succ h ih =>
    show (if _ then _ else _ : Int32 × Nat) = (if _ then _ else _ : Int32 × Nat)
    rw [ih]
/-- a draw: the next seed -/
def hsd (s : Int32) : Int32 := Int64.toInt32 ((1103515245 * Int32.toInt64 s + 12345) &&& 2147483647)
def hdt (s : Int32) : Nat := (1103515245 * Int32.toInt64 s + 12345).toBitVec.toNat % 2 ^ 31
theorem hdt_lt (s : Int32) : hdt s < 2 ^ 31 := Nat.mod_lt _ (by decide)
theorem hsd_nI (s : Int32) : hsd s = nI (hdt s) := by
  unfold hsd hdt
  generalize 1103515245 * Int32.toInt64 s + 12345 = x
  obtain ⟨m, hm, rfl⟩ := wb_of x
  have e := wb_mask (k := 31) hm (by decide)
  have e2 : (2147483647 : Int64) = lN (2 ^ 31 - 1) := by decide
  rw [e2, e, lN_i]
  congr 1
  rw [wb_tb, BitVec.toNat_ofNat, Nat.mod_eq_of_lt hm]
/-- what is drawn by a seed -/
def hdv (s : Int32) (d : Nat) : Nat := hdt s / 65536 % d
theorem hdv_lt (s : Int32) {d : Nat} (h : 0 < d) : hdv s d < d := Nat.mod_lt _ h
theorem hdq_lt (s : Int32) : hdt s / 65536 < 2 ^ 31 := Nat.lt_of_le_of_lt (Nat.div_le_self _ _) (hdt_lt s)
variable (n K F bar w ρ)
def hse (sd : Int32) : Nat → ((Nat → Int32) × (Nat → Nat)) × (Int32 × Int32)
  | 0 => ((w, ρ), (sd, 0))
  | k + 1 =>
    ((hww n K F bar (upd (hse sd k).1.1 (hdv (hsd (hse sd k).2.1) n) (hcap ((hse sd k).1.1 (hdv (hsd (hse sd k).2.1) n) + nI (hdv (hse sd k).2.1 4)))) (hse sd k).1.2,
      hrr n K F bar (upd (hse sd k).1.1 (hdv (hsd (hse sd k).2.1) n) (hcap ((hse sd k).1.1 (hdv (hsd (hse sd k).2.1) n) + nI (hdv (hse sd k).2.1 4)))) (hse sd k).1.2),
     (hsd (hsd (hse sd k).2.1), (hse sd k).2.2 + hmm n K F bar (upd (hse sd k).1.1 (hdv (hsd (hse sd k).2.1) n) (hcap ((hse sd k).1.1 (hdv (hsd (hse sd k).2.1) n) + nI (hdv (hse sd k).2.1 4)))) (hse sd k).1.2))
variable {n K F bar w ρ}
theorem PM.hse (h : PM n ρ) (hn : 2 ≤ n) (sd : Int32) : ∀ k, PM n (hse n K F bar w ρ sd k).1.2
  | 0 => h
  | k + 1 => (PM.hse h hn sd k).hrr hn
end Pure3
end
section
/-! ===== the pure side: bits, the reference's way of looking ===== -/
section Pure4
theorem or_0 (x : Int32) : x ||| 0 = x := Int32.toBitVec_inj.mp (by simp)
theorem bit_add : ∀ v, v < 10 → ∀ a, a < 2 ^ v → nI a ||| ((1 : Int32) <<< (nI v &&& 31)) = nI (a + 2 ^ v) := by decide +kernel
theorem bit_tst : ∀ v, v < 10 → ∀ b, b < 1024 → (((nI b >>> (nI v &&& 31)) &&& 1 = (1 : Int32)) ↔ b.testBit v = true) := by decide +kernel
theorem bit_new : ∀ v, v < 10 → ∀ a, a < 2 ^ v → (a + 2 ^ v).testBit v = true ∧ a.testBit v = false ∧ (∀ i, i < v → (a + 2 ^ v).testBit i = a.testBit i) := by decide +kernel
variable {n : Nat} {K F : Nat → Int32} {bar : Int32} {w : Nat → Int32} {ρ : Nat → Nat} {sh sr : Nat → Nat} {tb : Nat → Int32} {q rr : Nat}
theorem hbt_n : ∀ m, m ≤ 10 → ∃ b, b < 2 ^ m ∧ hbt n K F bar w ρ sh sr tb q rr m = nI b ∧ ∀ v, v < m → b.testBit v = hpo n K F bar w ρ sh sr tb q rr v := by
  intro m
  induction m with
  | zero => intro _; exact ⟨0, by decide, rfl, fun v hv => absurd hv (Nat.not_lt_zero v)⟩
  | succ m ih =>
    intro hm
    obtain ⟨b, hb, e, ht⟩ := ih (by omega)
    have hp : 2 ^ (m + 1) = 2 ^ m + 2 ^ m := by rw [Nat.pow_succ]; omega
    obtain ⟨n1, n2, n3⟩ := bit_new m (by omega) b hb
    cases hc : hpo n K F bar w ρ sh sr tb q rr m with
    | true =>
      refine ⟨b + 2 ^ m, by omega, ?_, fun v hv => ?_⟩
      · show (if _ then _ else _ : Int32) = _
        rw [if_pos hc, e]
        exact bit_add m (by omega) b hb
      · by_cases h : v = m
        · subst h; rw [n1, hc]
        · rw [n3 v (by omega)]; exact ht v (by omega)
    | false =>
      refine ⟨b, by omega, ?_, fun v hv => ?_⟩
      · show (if _ then _ else _ : Int32) = _
        rw [if_neg (by rw [hc]; decide)]
        exact e
      · by_cases h : v = m
        · subst h; rw [n2, hc]
        · exact ht v (by omega)
theorem hbt_bit {v : Nat} (hv : v < 10) : ((hbt n K F bar w ρ sh sr tb q rr 10 >>> (nI v &&& 31)) &&& 1 = (1 : Int32)) ↔ hpo n K F bar w ρ sh sr tb q rr v = true := by
  obtain ⟨b, hb, e, ht⟩ := hbt_n (n := n) (K := K) (F := F) (bar := bar) (w := w) (ρ := ρ) (sh := sh) (sr := sr) (tb := tb) (q := q) (rr := rr) 10 (Nat.le_refl _)
  rw [e, bit_tst v hv b hb, ht v hv]
theorem hag_e0 {T : Nat → Int32} {i : Nat} (h : hag T sh sr tb i = false) : (0 : Int32) = bI (hag T sh sr tb (i + 1)) := by
  show _ = bI (hag T sh sr tb i && _)
  rw [h]; rfl
theorem hag_e1 {T : Nat → Int32} {i : Nat} (h : hag T sh sr tb i = true) (e : (if T (sh i) = nI (sr i) then (1 : Int32) else 0) = tb i) : (1 : Int32) = bI (hag T sh sr tb (i + 1)) := by
  rw [hag_t h e]; rfl
theorem hag_e2 {T : Nat → Int32} {i : Nat} (e : ¬ (if T (sh i) = nI (sr i) then (1 : Int32) else 0) = tb i) : (0 : Int32) = bI (hag T sh sr tb (i + 1)) := by
  rw [hag_f e (i + 1) (by omega)]; rfl
/-- what is seen, as the reference holds it -/
def sgt (sh sr : Nat → Nat) (tb : Nat → Int32) : Nat → Int32 := fun j => if j % 3 = 0 then nI (sh (j / 3)) else if j % 3 = 1 then nI (sr (j / 3)) else tb (j / 3)
theorem sgt_0 (i : Nat) : sgt sh sr tb (3 * i) = nI (sh i) := by
  unfold sgt
  rw [if_pos (by omega), show 3 * i / 3 = i by omega]
theorem sgt_1 (i : Nat) : sgt sh sr tb (3 * i + 1) = nI (sr i) := by
  unfold sgt
  rw [if_neg (by omega), if_pos (by omega), show (3 * i + 1) / 3 = i by omega]
theorem sgt_2 (i : Nat) : sgt sh sr tb (3 * i + 2) = tb i := by
  unfold sgt
  rw [if_neg (by omega), if_neg (by omega), show (3 * i + 2) / 3 = i by omega]
theorem hlf_a {p : Nat} {g : Nat → Nat} {h : Nat} (c : g h ≤ p - g h) : nI (p - g h) = nI (hlf p g h) := by
  unfold hlf
  by_cases d : g h < p - g h
  · rw [if_pos d]
  · rw [if_neg d]; congr 1; omega
theorem hlf_b {p : Nat} {g : Nat → Nat} {h : Nat} (c : ¬ g h ≤ p - g h) : nI (g h) = nI (hlf p g h) := by
  unfold hlf
  rw [if_neg (by omega)]
theorem hse_s (sd : Int32) (k : Nat) : (hse n K F bar w ρ sd (k + 1)).2.2 = (hse n K F bar w ρ sd k).2.2 + hmm n K F bar (upd (hse n K F bar w ρ sd k).1.1 (hdv (hsd (hse n K F bar w ρ sd k).2.1) n) (hcap ((hse n K F bar w ρ sd k).1.1 (hdv (hsd (hse n K F bar w ρ sd k).2.1) n) + nI (hdv (hse n K F bar w ρ sd k).2.1 4)))) (hse n K F bar w ρ sd k).1.2 := rfl
end Pure4
end
section
/-! ===== the pure side: orders one behind another ===== -/
section Pure5
def PL : Nat → List (List Nat)
  | 2 => [[0, 1], [1, 0]]
  | 3 => [[0, 1, 2], [0, 2, 1], [1, 0, 2], [1, 2, 0], [2, 0, 1], [2, 1, 0]]
  | 4 => [[0, 1, 2, 3], [0, 1, 3, 2], [0, 2, 1, 3], [0, 2, 3, 1], [0, 3, 1, 2], [0, 3, 2, 1], [1, 0, 2, 3], [1, 0, 3, 2], [1, 2, 0, 3], [1, 2, 3, 0], [1, 3, 0, 2], [1, 3, 2, 0], [2, 0, 1, 3], [2, 0, 3, 1], [2, 1, 0, 3], [2, 1, 3, 0], [2, 3, 0, 1], [2, 3, 1, 0], [3, 0, 1, 2], [3, 0, 2, 1], [3, 1, 0, 2], [3, 1, 2, 0], [3, 2, 0, 1], [3, 2, 1, 0]]
  | 5 => [[0, 1, 2, 3, 4], [0, 1, 2, 4, 3], [0, 1, 3, 2, 4], [0, 1, 3, 4, 2], [0, 1, 4, 2, 3], [0, 1, 4, 3, 2], [0, 2, 1, 3, 4], [0, 2, 1, 4, 3], [0, 2, 3, 1, 4], [0, 2, 3, 4, 1], [0, 2, 4, 1, 3], [0, 2, 4, 3, 1], [0, 3, 1, 2, 4], [0, 3, 1, 4, 2], [0, 3, 2, 1, 4], [0, 3, 2, 4, 1], [0, 3, 4, 1, 2], [0, 3, 4, 2, 1], [0, 4, 1, 2, 3], [0, 4, 1, 3, 2], [0, 4, 2, 1, 3], [0, 4, 2, 3, 1], [0, 4, 3, 1, 2], [0, 4, 3, 2, 1], [1, 0, 2, 3, 4], [1, 0, 2, 4, 3], [1, 0, 3, 2, 4], [1, 0, 3, 4, 2], [1, 0, 4, 2, 3], [1, 0, 4, 3, 2], [1, 2, 0, 3, 4], [1, 2, 0, 4, 3], [1, 2, 3, 0, 4], [1, 2, 3, 4, 0], [1, 2, 4, 0, 3], [1, 2, 4, 3, 0], [1, 3, 0, 2, 4], [1, 3, 0, 4, 2], [1, 3, 2, 0, 4], [1, 3, 2, 4, 0], [1, 3, 4, 0, 2], [1, 3, 4, 2, 0], [1, 4, 0, 2, 3], [1, 4, 0, 3, 2], [1, 4, 2, 0, 3], [1, 4, 2, 3, 0], [1, 4, 3, 0, 2], [1, 4, 3, 2, 0], [2, 0, 1, 3, 4], [2, 0, 1, 4, 3], [2, 0, 3, 1, 4], [2, 0, 3, 4, 1], [2, 0, 4, 1, 3], [2, 0, 4, 3, 1], [2, 1, 0, 3, 4], [2, 1, 0, 4, 3], [2, 1, 3, 0, 4], [2, 1, 3, 4, 0], [2, 1, 4, 0, 3], [2, 1, 4, 3, 0], [2, 3, 0, 1, 4], [2, 3, 0, 4, 1], [2, 3, 1, 0, 4], [2, 3, 1, 4, 0], [2, 3, 4, 0, 1], [2, 3, 4, 1, 0], [2, 4, 0, 1, 3], [2, 4, 0, 3, 1], [2, 4, 1, 0, 3], [2, 4, 1, 3, 0], [2, 4, 3, 0, 1], [2, 4, 3, 1, 0], [3, 0, 1, 2, 4], [3, 0, 1, 4, 2], [3, 0, 2, 1, 4], [3, 0, 2, 4, 1], [3, 0, 4, 1, 2], [3, 0, 4, 2, 1], [3, 1, 0, 2, 4], [3, 1, 0, 4, 2], [3, 1, 2, 0, 4], [3, 1, 2, 4, 0], [3, 1, 4, 0, 2], [3, 1, 4, 2, 0], [3, 2, 0, 1, 4], [3, 2, 0, 4, 1], [3, 2, 1, 0, 4], [3, 2, 1, 4, 0], [3, 2, 4, 0, 1], [3, 2, 4, 1, 0], [3, 4, 0, 1, 2], [3, 4, 0, 2, 1], [3, 4, 1, 0, 2], [3, 4, 1, 2, 0], [3, 4, 2, 0, 1], [3, 4, 2, 1, 0], [4, 0, 1, 2, 3], [4, 0, 1, 3, 2], [4, 0, 2, 1, 3], [4, 0, 2, 3, 1], [4, 0, 3, 1, 2], [4, 0, 3, 2, 1], [4, 1, 0, 2, 3], [4, 1, 0, 3, 2], [4, 1, 2, 0, 3], [4, 1, 2, 3, 0], [4, 1, 3, 0, 2], [4, 1, 3, 2, 0], [4, 2, 0, 1, 3], [4, 2, 0, 3, 1], [4, 2, 1, 0, 3], [4, 2, 1, 3, 0], [4, 2, 3, 0, 1], [4, 2, 3, 1, 0], [4, 3, 0, 1, 2], [4, 3, 0, 2, 1], [4, 3, 1, 0, 2], [4, 3, 1, 2, 0], [4, 3, 2, 0, 1], [4, 3, 2, 1, 0]]
  | _ => []
def lg (l : List Nat) : Nat → Nat := fun j => l.getD j 0
def lf (n k : Nat) : Nat → Nat := lg ((PL n).getD k [])
def tmn (u : Nat) : Int32 := nI u - 1
theorem tmn_s (k : Nat) : tmn (k + 1) = nI k := nI_pred k
theorem tmn_d (k : Nat) : nI k + Int32.ofInt (-1) = tmn k := by
  unfold tmn
  have e : Int32.ofInt (-1) = -1 := by decide
  rw [e]
  exact (Int32.sub_eq_add_neg (nI k) 1).symm
theorem nI_dec {x : Nat} (h : 0 < x) : nI x + Int32.ofInt (-1) = nI (x - 1) := by
  obtain ⟨k, rfl⟩ : ∃ k, x = k + 1 := ⟨x - 1, by omega⟩
  rw [tmn_d, tmn_s]; rfl
theorem tmn_lt {u : Nat} (hu : u < 100) : tmn u < 0 ↔ u = 0 := by
  by_cases h : u = 0
  · subst h; exact ⟨fun _ => rfl, fun _ => by decide⟩
  · obtain ⟨k, rfl⟩ : ∃ k, u = k + 1 := ⟨u - 1, by omega⟩
    rw [tmn_s]
    exact ⟨fun z => absurd z (nI_pos (by omega)), fun z => absurd z (by omega)⟩
def nxu (o : Nat → Nat) : Nat → Nat
  | 0 => 0
  | u + 1 => if o (u + 1) < o u then nxu o u else u + 1
def nxn (o : Nat → Nat) (t : Nat) : Nat → Nat
  | 0 => 0
  | x + 1 => if t < x + 1 ∧ o (x + 1) < o t then nxn o t x else x + 1
def nsw (o : Nat → Nat) (a b : Nat) : Nat → Nat := un (un o a (o b)) b (o a)
def nrv : Nat → (Nat → Nat) → Nat → Nat → (Nat → Nat)
  | 0, o, _, _ => o
  | f + 1, o, lo, hi => if lo < hi then nrv f (nsw o lo hi) (lo + 1) (hi - 1) else o
def nxt (n : Nat) (o : Nat → Nat) : Bool × (Nat → Nat) :=
  if nxu o (n - 1) = 0 then (false, o) else (true, nrv 5 (nsw o (nxu o (n - 1) - 1) (nxn o (nxu o (n - 1) - 1) (n - 1))) (nxu o (n - 1) - 1 + 1) (n - 1))
theorem nxn_e {o : Nat → Nat} {t x : Nat} (h : ¬ (t < x ∧ o x < o t)) : nxn o t x = x := by
  cases x with
  | zero => rfl
  | succ x => exact if_neg h
theorem nxn_s {o : Nat → Nat} {t x : Nat} (h0 : 0 < x) (h : t < x ∧ o x < o t) : nxn o t x = nxn o t (x - 1) := by
  cases x with
  | zero => omega
  | succ x => exact if_pos h
theorem nrv_e {f : Nat} {o : Nat → Nat} {lo hi : Nat} (h : ¬ lo < hi) : nrv f o lo hi = o := by
  cases f with
  | zero => rfl
  | succ f => exact if_neg h
theorem nxu_congr {n : Nat} {o o' : Nat → Nat} (h : ∀ j, j < n → o j = o' j) : ∀ u, u < n → nxu o u = nxu o' u := by
  intro u
  induction u with
  | zero => intro _; rfl
  | succ u ih =>
    intro hu
    show (if _ then _ else _ : Nat) = if _ then _ else _
    rw [h (u + 1) hu, h u (by omega), ih (by omega)]
theorem nxu_le {o : Nat → Nat} : ∀ u, nxu o u ≤ u := by
  intro u
  induction u with
  | zero => exact Nat.le_refl _
  | succ u ih =>
    show (if _ then _ else _ : Nat) ≤ u + 1
    split
    · exact Nat.le_succ_of_le ih
    · exact Nat.le_refl _
theorem nxn_le {o : Nat → Nat} {t : Nat} : ∀ x, nxn o t x ≤ x := by
  intro x
  induction x with
  | zero => exact Nat.le_refl _
  | succ x ih =>
    show (if _ then _ else _ : Nat) ≤ x + 1
    split
    · exact Nat.le_succ_of_le ih
    · exact Nat.le_refl _
theorem nxn_congr {n : Nat} {o o' : Nat → Nat} (h : ∀ j, j < n → o j = o' j) {t : Nat} (ht : t < n) : ∀ x, x < n → nxn o t x = nxn o' t x := by
  intro x
  induction x with
  | zero => intro _; rfl
  | succ x ih =>
    intro hx
    show (if _ then _ else _ : Nat) = if _ then _ else _
    rw [h (x + 1) hx, h t ht, ih (by omega)]
theorem nsw_congr {n : Nat} {o o' : Nat → Nat} (h : ∀ j, j < n → o j = o' j) {a b : Nat} (ha : a < n) (hb : b < n) : ∀ j, j < n → nsw o a b j = nsw o' a b j := by
  intro j hj
  unfold nsw un
  rw [h a ha, h b hb, h j hj]
theorem nrv_congr {n : Nat} : ∀ (f : Nat) {o o' : Nat → Nat} (_ : ∀ j, j < n → o j = o' j) {lo hi : Nat} (_ : hi < n), ∀ j, j < n → nrv f o lo hi j = nrv f o' lo hi j := by
  intro f
  induction f with
  | zero => intro o o' h lo hi _ j hj; exact h j hj
  | succ f ih =>
    intro o o' h lo hi hh j hj
    show (if _ then _ else _ : Nat → Nat) j = (if _ then _ else _ : Nat → Nat) j
    by_cases c : lo < hi
    · rw [if_pos c, if_pos c]
      exact ih (nsw_congr h (by omega) hh) (by omega) j hj
    · rw [if_neg c, if_neg c]; exact h j hj
theorem nxt_congr {n : Nat} (hn : 0 < n) {o o' : Nat → Nat} (h : ∀ j, j < n → o j = o' j) : (nxt n o).1 = (nxt n o').1 ∧ ∀ j, j < n → (nxt n o).2 j = (nxt n o').2 j := by
  unfold nxt
  have e := nxu_congr h (n - 1) (by omega)
  rw [e]
  by_cases c : nxu o' (n - 1) = 0
  · rw [if_pos c, if_pos c]; exact ⟨rfl, h⟩
  · rw [if_neg c, if_neg c]
    have l1 := nxu_le (o := o') (n - 1)
    have e2 := nxn_congr h (t := nxu o' (n - 1) - 1) (by omega) (n - 1) (by omega)
    have l2 := nxn_le (o := o') (t := nxu o' (n - 1) - 1) (n - 1)
    refine ⟨rfl, fun j hj => ?_⟩
    show nrv 5 _ _ _ j = nrv 5 _ _ _ j
    rw [e2]
    exact nrv_congr 5 (nsw_congr h (by omega) (by omega)) (by omega) j hj
def idn (i : Nat) (o : Nat → Nat) : Nat → Nat := fun j => if j < i then j else o j
theorem idn_0 (o : Nat → Nat) (j : Nat) : o j = idn 0 o j := (if_neg (Nat.not_lt_zero j)).symm
theorem idn_s {o : Nat → Nat} (i j : Nat) : un (idn i o) i i j = idn (i + 1) o j := by
  unfold un idn
  by_cases h : j = i
  · subst h; rw [if_pos rfl, if_pos (by omega)]
  · rw [if_neg h]
    by_cases h2 : j < i
    · rw [if_pos h2, if_pos (by omega)]
    · rw [if_neg h2, if_neg (by omega)]
def osq (n : Nat) (o : Nat → Nat) : Nat → (Nat → Nat)
  | 0 => idn n o
  | k + 1 => (nxt n (osq n o k)).2
theorem tb0 : ∀ n, n < 6 → 2 ≤ n → ∀ j, j < n → lf n 0 j = j := by decide +kernel
theorem tb1 : ∀ n, n < 6 → 2 ≤ n → 1 ≤ (PL n).length ∧ (PL n).length ≤ 120 ∧ ((PL n).length = 120 ∨ (PL n).length < 120) := by decide +kernel
theorem tb2 : ∀ n, n < 6 → 2 ≤ n → ∀ k, k < (PL n).length - 1 → (nxt n (lf n k)).1 = true ∧ ∀ j, j < n → (nxt n (lf n k)).2 j = lf n (k + 1) j := by decide +kernel
theorem tb3 : ∀ n, n < 6 → 2 ≤ n → (nxt n (lf n ((PL n).length - 1))).1 = false := by decide +kernel
def pmb (n : Nat) (f : Nat → Nat) : Bool := (List.range n).all (fun j => decide (f j < n)) && ((List.range n).all (fun i => (List.range n).all (fun j => decide (f i = f j → i = j))) && (List.range n).all (fun k => (List.range n).any (fun j => decide (f j = k))))
theorem pmb_pm {n : Nat} {f : Nat → Nat} (h : pmb n f = true) : PM n f := by
  unfold pmb at h
  rw [Bool.and_eq_true, Bool.and_eq_true] at h
  obtain ⟨a, b, c⟩ := h
  refine ⟨fun j hj => of_decide_eq_true (List.all_eq_true.mp a j (List.mem_range.mpr hj)), fun i j hi hj => of_decide_eq_true (List.all_eq_true.mp (List.all_eq_true.mp b i (List.mem_range.mpr hi)) j (List.mem_range.mpr hj)), fun k hk => ?_⟩
  obtain ⟨j, hj, e⟩ := List.any_eq_true.mp (List.all_eq_true.mp c k (List.mem_range.mpr hk))
  exact ⟨j, List.mem_range.mp hj, of_decide_eq_true e⟩
theorem tb4 : ∀ n, n < 6 → 2 ≤ n → ∀ k, k < (PL n).length → pmb n (lf n k) = true := by decide +kernel
theorem lf_pm {n k : Nat} (h6 : n < 6) (h2 : 2 ≤ n) (hk : k < (PL n).length) : PM n (lf n k) := pmb_pm (tb4 n h6 h2 k hk)
theorem osq_lf {n : Nat} (h6 : n < 6) (h2 : 2 ≤ n) (o : Nat → Nat) : ∀ k, k < (PL n).length → ∀ j, j < n → osq n o k j = lf n k j := by
  intro k
  induction k with
  | zero => intro _ j hj; exact (if_pos hj).trans (tb0 n h6 h2 j hj).symm
  | succ k ih =>
    intro hk j hj
    have e := (nxt_congr (n := n) (by omega) (ih (by omega))).2 j hj
    exact e.trans ((tb2 n h6 h2 k (by omega)).2 j hj)
theorem osq_t {n : Nat} (h6 : n < 6) (h2 : 2 ≤ n) (o : Nat → Nat) {k : Nat} (hk : k + 1 < (PL n).length) : (nxt n (osq n o k)).1 = true :=
  (nxt_congr (n := n) (by omega) (osq_lf h6 h2 o k (by omega))).1.trans (tb2 n h6 h2 k (by omega)).1
theorem osq_f {n : Nat} (h6 : n < 6) (h2 : 2 ≤ n) (o : Nat → Nat) {k : Nat} (hk : k + 1 = (PL n).length) : (nxt n (osq n o k)).1 = false := by
  have e := (nxt_congr (n := n) (by omega) (osq_lf h6 h2 o k (by omega))).1
  have e2 : k = (PL n).length - 1 := by omega
  rw [e, e2]
  exact tb3 n h6 h2
theorem osq_pm {n : Nat} (h6 : n < 6) (h2 : 2 ≤ n) (o : Nat → Nat) {k : Nat} (hk : k < (PL n).length) : PM n (osq n o k) := (lf_pm h6 h2 hk).congr (osq_lf h6 h2 o k hk)
-- an hour sees the row's first n places alone
variable {n : Nat} {K F : Nat → Int32} {bar : Int32} {w : Nat → Int32}
theorem hpp_congr {ρ σ : Nat → Nat} (h : ∀ j, j < n → ρ j = σ j) : ∀ i, i < n → ∀ j, j < n → hpp K w ρ i j = hpp K w σ i j := by
  intro i
  induction i with
  | zero => intro _ j hj; exact h j hj
  | succ i ih =>
    intro hi j hj
    have ih := ih (by omega)
    have e1 := ih (i + 1) hi
    have e0 := ih i (by omega)
    cases c : hps K w (hpp K w σ i (i + 1)) (hpp K w σ i i) with
    | true =>
      rw [hpp_t c, hpp_t (by rw [e1, e0]; exact c)]
      unfold un
      rw [e1, e0, ih j hj]
    | false =>
      rw [hpp_f c, hpp_f (by rw [e1, e0]; exact c)]
      exact ih j hj
theorem hsb_congr {q : Nat} {ρ σ : Nat → Nat} (hq : q < n) (h : ∀ j, j < n → ρ j = σ j) : ∀ j, j < n → hsb n q ρ j = hsb n q σ j := by
  intro j hj
  unfold hsb
  by_cases c : q ≤ j ∧ j < n - 1
  · rw [if_pos c, if_pos c]; exact h _ (by omega)
  · rw [if_neg c, if_neg c, h q hq, h j hj]
theorem hour_congr {ρ σ : Nat → Nat} (hn : 2 ≤ n) (h : ∀ j, j < n → ρ j = σ j) : hww n K F bar w ρ = hww n K F bar w σ ∧ (∀ j, j < n → hrr n K F bar w ρ j = hrr n K F bar w σ j) ∧ hoo n K F bar w ρ = hoo n K F bar w σ ∧ hmm n K F bar w ρ = hmm n K F bar w σ := by
  have e := hpp_congr (K := K) (w := hgr n F w) h (n - 1) (by omega)
  have ef : hfi n K F w ρ = hfi n K F w σ := e 0 (by omega)
  have em : hmm n K F bar w ρ = hmm n K F bar w σ := by unfold hmm; rw [ef]
  refine ⟨by unfold hww; rw [ef, em], fun j hj => ?_, by unfold hoo; rw [ef], em⟩
  unfold hrr
  rw [ef, em]
  split
  · exact hsb_congr (by omega) e j hj
  · exact e j hj
theorem hit_congr {ρ σ : Nat → Nat} (hn : 2 ≤ n) (h : ∀ j, j < n → ρ j = σ j) : ∀ k, (hit n K F bar w ρ k).1 = (hit n K F bar w σ k).1 ∧ ∀ j, j < n → (hit n K F bar w ρ k).2 j = (hit n K F bar w σ k).2 j := by
  intro k
  induction k with
  | zero => exact ⟨rfl, h⟩
  | succ k ih =>
    obtain ⟨a, b⟩ := ih
    have c := hour_congr (K := K) (F := F) (bar := bar) (w := (hit n K F bar w σ k).1) hn b
    exact ⟨by show hww _ _ _ _ _ _ = hww _ _ _ _ _ _; rw [a]; exact c.1, fun j hj => by show hrr _ _ _ _ _ _ j = hrr _ _ _ _ _ _ j; rw [a]; exact c.2.1 j hj⟩
/-- what stands behind ten hours of an order -/
def hvl (n : Nat) (K F : Nat → Int32) (bar : Int32) (w : Nat → Int32) (l : List Nat) : Int32 := hsm n K F bar w (lg l) 10
theorem hvl_of {o : Nat → Nat} {l : List Nat} (hn : 2 ≤ n) (h : ∀ j, j < n → o j = lg l j) : hsm n K F bar w o 10 = hvl n K F bar w l := by
  unfold hvl hsm
  rw [(hit_congr hn h 10).1]
/-- the best so far -/
def cst (v : List Nat → Int32) (L : List (List Nat)) : Nat → Int32 × List Nat
  | 0 => (v (L.getD 0 []), L.getD 0 [])
  | k + 1 => if (cst v L k).1 ≤ v (L.getD (k + 1) []) then cst v L k else (v (L.getD (k + 1) []), L.getD (k + 1) [])
-- the reference's digits
def lyf (n : Nat) : Nat → Nat → Nat → (Nat → Nat) → Nat × (Nat → Nat)
  | 0, _, mask, ρ => (mask, ρ)
  | c + 1, left, mask, ρ => lyf n c (left / n) (mask ||| 2 ^ (left % n)) (un ρ c (left % n))
def isp (n c : Nat) : Bool := (lyf n n c 0 (fun _ => 0)).1 == 2 ^ n - 1
def dgs (n c : Nat) : List Nat := (List.range n).map (fun j => (lyf n n c 0 (fun _ => 0)).2 j)
theorem lyf_1 {n : Nat} : ∀ (c left mask : Nat) (ρ σ : Nat → Nat), (lyf n c left mask ρ).1 = (lyf n c left mask σ).1 := by
  intro c
  induction c with
  | zero => intro _ _ _ _; rfl
  | succ c ih => intro left mask ρ σ; exact ih _ _ _ _
theorem lyf_2 {n : Nat} : ∀ (c left mask : Nat) (ρ σ : Nat → Nat) (j : Nat), (c ≤ j → ρ j = σ j) → (lyf n c left mask ρ).2 j = (lyf n c left mask σ).2 j := by
  intro c
  induction c with
  | zero => intro _ _ ρ σ j h; exact h (Nat.zero_le _)
  | succ c ih =>
    intro left mask ρ σ j h
    refine ih _ _ _ _ j (fun hj => ?_)
    unfold un
    by_cases e : j = c
    · rw [if_pos e, if_pos e]
    · rw [if_neg e, if_neg e]; exact h (by omega)
theorem lyf_lg {n c : Nat} {ρ : Nat → Nat} {j : Nat} (hj : j < n) : (lyf n n c 0 ρ).2 j = lg (dgs n c) j := by
  have e := lyf_2 (n := n) n c 0 ρ (fun _ => 0) j (fun h => by omega)
  rw [e]
  unfold lg dgs
  rw [List.getD_eq_getElem?_getD, List.getElem?_map, List.getElem?_range hj]
  rfl
theorem mask_or : ∀ m, m < 32 → ∀ d, d < 5 → nI m ||| ((1 : Int32) <<< (nI d &&& 31)) = nI (m ||| 2 ^ d) := by decide +kernel
theorem mask_lt : ∀ m, m < 32 → ∀ d, d < 5 → m ||| 2 ^ d < 32 := by decide +kernel
theorem mask_e : ∀ n, n < 6 → ((1 : Int32) <<< (nI n &&& 31)) - 1 = nI (2 ^ n - 1) := by decide +kernel
theorem pow_n : ∀ n, n < 6 → ∀ i, i < n + 1 → n ^ i ≤ 3125 := by decide +kernel
def gps (n c : Nat) : Option (List Nat) := if isp n c = true then some (dgs n c) else none
theorem tb5 : ∀ n, n < 6 → 2 ≤ n → (List.range (n ^ n)).filterMap (gps n) = PL n := by decide +kernel
theorem tb6 {n c : Nat} (h6 : n < 6) (h2 : 2 ≤ n) (hc : c < n ^ n) (hp : isp n c = true) : PM n (lg (dgs n c)) := by
  have hm : dgs n c ∈ PL n := by
    rw [← tb5 n h6 h2]
    exact List.mem_filterMap.mpr ⟨c, List.mem_range.mpr hc, if_pos hp⟩
  obtain ⟨k, hk, e⟩ := List.getElem_of_mem hm
  have e2 : lf n k = lg (dgs n c) := by
    unfold lf
    rw [List.getD_eq_getElem?_getD, List.getElem?_eq_getElem hk, e]; rfl
  rw [← e2]
  exact lf_pm h6 h2 hk
theorem isp_pm {n c : Nat} {ρ : Nat → Nat} (h6 : n < 6) (h2 : 2 ≤ n) (hc : c < n ^ n) (hp : isp n c = true) : PM n (lyf n n c 0 ρ).2 := (tb6 h6 h2 hc hp).congr (fun j hj => lyf_lg hj)
theorem isp_t {n c : Nat} {ρ : Nat → Nat} (h : (lyf n n c 0 ρ).1 = 2 ^ n - 1) : isp n c = true := by
  unfold isp
  rw [lyf_1 n c 0 (fun _ => 0) ρ, h]
  exact beq_self_eq_true _
theorem isp_f {n c : Nat} {ρ : Nat → Nat} (h : ¬ (lyf n n c 0 ρ).1 = 2 ^ n - 1) : isp n c = false := by
  unfold isp
  rw [lyf_1 n c 0 (fun _ => 0) ρ]
  exact beq_eq_false_iff_ne.mpr h
theorem pow2_n : ∀ n, n < 6 → 2 ^ n ≤ 32 := by decide +kernel
def mstep (v : List Nat → Int32) (s : Int32 × List Nat) (l : List Nat) : Int32 × List Nat := if s.1 = -1 then (v l, l) else if s.1 ≤ v l then s else (v l, l)
def mst (v : List Nat → Int32) (n c : Nat) : Int32 × List Nat := ((List.range c).filterMap (gps n)).foldl (mstep v) (-1, [])
theorem mst_t {v : List Nat → Int32} {n c : Nat} (h : isp n c = true) : mst v n (c + 1) = mstep v (mst v n c) (dgs n c) := by
  unfold mst
  have e : gps n c = some (dgs n c) := if_pos h
  rw [List.range_succ, List.filterMap_append, List.foldl_append, List.filterMap_cons, e]
  rfl
theorem mst_f {v : List Nat → Int32} {n c : Nat} (h : isp n c = false) : mst v n (c + 1) = mst v n c := by
  unfold mst
  have e : gps n c = none := if_neg (by rw [h]; decide)
  rw [List.range_succ, List.filterMap_append, List.foldl_append, List.filterMap_cons, e]
  rfl
theorem cst_fold {v : List Nat → Int32} (hv : ∀ l, l ∈ PL n → ¬ v l = -1) (k : Nat) : k < (PL n).length → ((PL n).take (k + 1)).foldl (mstep v) (-1, []) = cst v (PL n) k ∧ ¬ (cst v (PL n) k).1 = -1 := by
  induction k with
  | zero =>
    intro hk
    have hm : (PL n).getD 0 [] ∈ PL n := by rw [List.getD_eq_getElem?_getD, List.getElem?_eq_getElem hk]; exact List.getElem_mem hk
    have e : (PL n).take (0 + 1) = [(PL n).getD 0 []] := by
      rw [List.take_add_one, List.take_zero, List.getD_eq_getElem?_getD, List.getElem?_eq_getElem hk]; rfl
    rw [e]
    exact ⟨rfl, hv _ hm⟩
  | succ k ih =>
    intro hk
    obtain ⟨a, b⟩ := ih (by omega)
    have hm : (PL n).getD (k + 1) [] ∈ PL n := by rw [List.getD_eq_getElem?_getD, List.getElem?_eq_getElem hk]; exact List.getElem_mem hk
    have e : (PL n).take (k + 1 + 1) = (PL n).take (k + 1) ++ [(PL n).getD (k + 1) []] := by
      rw [List.take_add_one, List.getD_eq_getElem?_getD, List.getElem?_eq_getElem hk]; rfl
    rw [e, List.foldl_append, a]
    show mstep v (cst v (PL n) k) ((PL n).getD (k + 1) []) = (if _ then _ else _) ∧ ¬ (if _ then _ else _ : Int32 × List Nat).1 = -1
    unfold mstep
    rw [if_neg b]
    refine ⟨rfl, ?_⟩
    split
    · exact b
    · exact hv _ hm
theorem mst_cst {v : List Nat → Int32} (h6 : n < 6) (h2 : 2 ≤ n) (hv : ∀ l, l ∈ PL n → ¬ v l = -1) : mst v n (n ^ n) = cst v (PL n) ((PL n).length - 1) := by
  have l1 := (tb1 n h6 h2).1
  have e := (cst_fold hv ((PL n).length - 1) (by omega)).1
  rw [show (PL n).length - 1 + 1 = (PL n).length by omega, List.take_length] at e
  unfold mst
  rw [tb5 n h6 h2]
  exact e
end Pure5
end
section
/-! ===== the pure side: the page ===== -/
section Pure6
def kb (c : Nat) : Int32 := if c = 114 then 0 else if c = 102 then 1 else if c = 98 then 2 else if c = 111 then 3 else if c = 116 then 4 else -1
def bt (i : Nat) : Nat := ([114, 102, 98, 111, 116] : List Nat).getD i 0
theorem bt_v : ∀ j, j < 5 → ([114, 102, 98, 111, 116] : List Int32).getD j 0 = nI (bt j) := by decide +kernel
theorem bt_lt : ∀ j, j < 5 → bt j < 128 := by decide +kernel
theorem kb_at : ∀ i, i < 5 → nI i = kb (bt i) := by decide +kernel
theorem kb_no {c : Nat} (h : ∀ j, j < 5 → ¬ bt j = c) : (-1 : Int32) = kb c := by
  unfold kb
  rw [if_neg (fun z => h 0 (by decide) z.symm), if_neg (fun z => h 1 (by decide) z.symm), if_neg (fun z => h 2 (by decide) z.symm), if_neg (fun z => h 3 (by decide) z.symm), if_neg (fun z => h 4 (by decide) z.symm)]
theorem i2b_c : ∀ c, c < 128 → (nI c).toInt8.toInt32 = nI c := by decide +kernel
theorem i2c_c : ∀ c, c < 128 → ((nI c).toUInt32 % 65536).toInt32 = nI c := by decide +kernel
def wth (x lo hi : Int32) : Bool := !decide (x < lo) && !decide (hi < x)
def rng (c lo hi : Nat) : Bool := decide (lo ≤ c ∧ c ≤ hi)
theorem wth_nI {c lo hi : Nat} (hc : c < 128) (hl : lo < 128) (hh : hi < 128) : wth (nI c) (nI lo) (nI hi) = rng c lo hi := by
  have e1 : decide (nI c < nI lo) = decide (c < lo) := decide_eq_decide.mpr (jlt (by omega) (by omega))
  have e2 : decide (nI hi < nI c) = decide (hi < c) := decide_eq_decide.mpr (jlt (by omega) (by omega))
  unfold wth rng
  rw [e1, e2]
  by_cases a : c < lo
  · have b : ¬ (lo ≤ c ∧ c ≤ hi) := by omega
    rw [decide_eq_true a, decide_eq_false b]; rfl
  · rw [decide_eq_false a]
    by_cases b : hi < c
    · have d : ¬ (lo ≤ c ∧ c ≤ hi) := by omega
      rw [decide_eq_true b, decide_eq_false d]; rfl
    · have d : lo ≤ c ∧ c ≤ hi := by omega
      rw [decide_eq_false b, decide_eq_true d]; rfl
/-- the letter at a place, or 0 -/
def cat (pg : Nat → Nat) (ps : Nat) (x : Int32) : Nat := if hin (nI ps) x = true then pg x.toNatClampNeg else 0
theorem cat_nI {pg : Nat → Nat} {ps k : Nat} (hk : k < ps) (hp : ps < 100) : cat pg ps (nI k) = pg k := by
  unfold cat
  rw [if_pos (hin_nI hk hp), nI_clamp (by omega)]
theorem cat_neg {pg : Nat → Nat} {ps : Nat} {x : Int32} (h : x < 0) : cat pg ps x = 0 := by
  unfold cat
  rw [if_neg]
  unfold hin
  rw [decide_eq_true h, Bool.not_true, Bool.false_and]
  decide
theorem cat_big {pg : Nat → Nat} {ps : Nat} {x : Int32} (h : nI ps ≤ x) : cat pg ps x = 0 := by
  unfold cat
  rw [if_neg]
  unfold hin
  rw [decide_eq_true h, Bool.not_true, Bool.and_false]
  decide
theorem nI_m1 {k : Nat} (h : 1 ≤ k) : nI k - 1 = nI (k - 1) := by
  obtain ⟨j, rfl⟩ : ∃ j, k = j + 1 := ⟨k - 1, by omega⟩
  exact nI_pred j
/-- whether a semicolon stands d places ahead -/
def sem (pg : Nat → Nat) (k d : Nat) : Bool := decide (d ≤ k ∧ pg (k - d) = 59)
theorem sem_1 {pg : Nat → Nat} {ps k : Nat} (hk : k ≤ ps) (hp : ps < 100) : decide (cat pg ps (nI k - 1) = 59) = sem pg k 1 := by
  unfold sem
  by_cases h : 1 ≤ k
  · rw [nI_m1 h, cat_nI (by omega) hp]
    by_cases e : pg (k - 1) = 59
    · rw [decide_eq_true e, decide_eq_true ⟨h, e⟩]
    · rw [decide_eq_false e, decide_eq_false (fun z => e z.2)]
  · have e : k = 0 := by omega
    subst e
    rw [cat_neg (by decide), decide_eq_false (by decide), decide_eq_false (fun z => h z.1)]
theorem sem_2 {pg : Nat → Nat} {ps k : Nat} (hk : k ≤ ps) (hp : ps < 100) : decide (cat pg ps (nI k - 1 - 1) = 59) = sem pg k 2 := by
  unfold sem
  by_cases h : 2 ≤ k
  · rw [nI_m1 (by omega), nI_m1 (by omega), cat_nI (by omega) hp, show k - 1 - 1 = k - 2 by omega]
    by_cases e : pg (k - 2) = 59
    · rw [decide_eq_true e, decide_eq_true ⟨h, e⟩]
    · rw [decide_eq_false e, decide_eq_false (fun z => e z.2)]
  · have e : k = 0 ∨ k = 1 := by omega
    rcases e with e | e <;> subst e <;> rw [cat_neg (by decide), decide_eq_false (by decide), decide_eq_false (fun z => h z.1)]
def fbr (c r : Nat) : Bool := if c = 44 then decide (r < 5) else if c = 59 then decide (2 ≤ r) else false
/-- whether the letter at k fits behind those ahead of it -/
def fitb (pg : Nat → Nat) (k : Nat) : Bool :=
  if sem pg k 2 = true then false else if sem pg k 1 = true then rng (pg k) 49 57 else if k % 4 = 0 then !decide (kb (pg k) < 0) else if k % 4 = 1 then rng (pg k) 48 57 else if k % 4 = 2 then rng (pg k) 48 53 else fbr (pg k) (k / 4 + 1)
def fft (pg : Nat → Nat) : Nat → Nat → Nat
  | 0, k => k
  | fu + 1, k => if fitb pg k = true then fft pg fu (k + 1) else k
/-- the first letter that doesn't fit, or how many there are -/
def ff (pg : Nat → Nat) (ps : Nat) : Nat := fft pg ps 0
theorem fft_s {pg : Nat → Nat} {ps k : Nat} (h : k < ps) : fft pg (ps - k) k = if fitb pg k = true then fft pg (ps - (k + 1)) (k + 1) else k := by
  have e : ps - k = (ps - (k + 1)) + 1 := by omega
  rw [e]; rfl
theorem fft_le {pg : Nat → Nat} : ∀ fu k, fft pg fu k ≤ k + fu := by
  intro fu
  induction fu with
  | zero => intro k; exact Nat.le_refl _
  | succ fu ih =>
    intro k
    show (if _ then _ else _ : Nat) ≤ _
    split
    · have := ih (k + 1); omega
    · omega
theorem ff_le (pg : Nat → Nat) (ps : Nat) : ff pg ps ≤ ps := by
  have := fft_le (pg := pg) ps 0
  unfold ff; omega
theorem fft_all {pg : Nat → Nat} : ∀ fu k, fft pg fu k = k + fu → ∀ j, k ≤ j → j < k + fu → fitb pg j = true := by
  intro fu
  induction fu with
  | zero => intro k _ j h1 h2; omega
  | succ fu ih =>
    intro k h j h1 h2
    have h' : (if fitb pg k = true then fft pg fu (k + 1) else k) = k + (fu + 1) := h
    by_cases c : fitb pg k = true
    · rw [if_pos c] at h'
      by_cases e : j = k
      · rw [e]; exact c
      · exact ih (k + 1) (by omega) j (by omega) (by omega)
    · rw [if_neg c] at h'; omega
theorem ff_all {pg : Nat → Nat} {ps : Nat} (h : ff pg ps = ps) : ∀ j, j < ps → fitb pg j = true := fun j hj => fft_all ps 0 (by unfold ff at h; omega) j (Nat.zero_le _) (by omega)
/-- whether the page is a coast -/
def hcb (pg : Nat → Nat) (ps : Nat) : Bool := decide (ff pg ps = ps) && sem pg ps 2
theorem idn_0r (n : Nat) (ρ : Nat → Nat) (j : Nat) : ro ρ j = ro (idn 0 ρ) j := congrArg nI (idn_0 ρ j)
theorem min_5 {ps n : Nat} (h : ps = n * 4 + 1) (hn : n ≤ 5) : (if 5 < nI (ps / 4) then 5 else nI (ps / 4)) = nI n := by
  have e : ps / 4 = n := by omega
  rw [e]
  exact if_neg (fun z => absurd ((jlt (a := 5) (b := n) (by omega) (by omega)).mp z) (by omega))
end Pure6
end
section
/-! ===== the pure side: the reference's way of reading a page ===== -/
section Pure7
def gst (st c : Nat) : Nat := if st = 3 then (if c = 44 then 0 else 4) else st + 1
def grm (st rm : Nat) : Nat := if st = 2 then rm + 1 else rm
def grb (st c : Nat) (b : Int32) : Int32 := if st = 4 then nI c - 48 else b
def grd (st rm c : Nat) (d : Nat → Int32) : Nat → Int32 := if st = 0 then upd d (3 * rm) (kb c) else if st = 1 then upd d (3 * rm + 1) (nI c - 48) else if st = 2 then upd d (3 * rm + 2) (nI c - 48) else d
def gfit (st rm c : Nat) : Bool := if st = 0 then !decide (kb c = -1) else if st = 1 then rng c 48 57 else if st = 2 then rng c 48 53 else if st = 3 then (if c = 44 then decide (rm < 5) else if c = 59 then decide (1 < rm) else false) else if st = 4 then rng c 49 57 else false
def gS (pg : Nat → Nat) : Nat → Nat
  | 0 => 0
  | k + 1 => gst (gS pg k) (pg k)
def gR (pg : Nat → Nat) : Nat → Nat
  | 0 => 0
  | k + 1 => grm (gS pg k) (gR pg k)
def gB (pg : Nat → Nat) (b : Int32) : Nat → Int32
  | 0 => b
  | k + 1 => grb (gS pg k) (pg k) (gB pg b k)
def gD (pg : Nat → Nat) (d : Nat → Int32) : Nat → (Nat → Int32)
  | 0 => d
  | k + 1 => grd (gS pg k) (gR pg k) (pg k) (gD pg d k)
theorem lin_09 : ∀ c, c < 128 → lin (Int32.toInt64 (nI c - 48)) 0 9 = rng c 48 57 := by decide +kernel
theorem lin_05 : ∀ c, c < 128 → lin (Int32.toInt64 (nI c - 48)) 0 5 = rng c 48 53 := by decide +kernel
theorem lin_19 : ∀ c, c < 128 → lin (Int32.toInt64 (nI c - 48)) 1 9 = rng c 49 57 := by decide +kernel
theorem kb_neg : ∀ c, c < 128 → decide (kb c < 0) = decide (kb c = -1) := by decide +kernel
theorem kb_59 : kb 59 = -1 := by decide
theorem kb_in : ∀ c, c < 128 → (!decide (kb c < 0)) = true → kb c = 0 ∨ kb c = 1 ∨ kb c = 2 ∨ kb c = 3 ∨ kb c = 4 := by decide +kernel
def stM (pg : Nat → Nat) (k : Nat) : Nat := if sem pg k 2 = true then 5 else if sem pg k 1 = true then 4 else k % 4
variable {pg : Nat → Nat}
theorem sem_t {k d : Nat} : sem pg k d = true ↔ d ≤ k ∧ pg (k - d) = 59 := by unfold sem; exact decide_eq_true_iff
theorem sem_f {k d : Nat} : sem pg k d = false ↔ ¬ (d ≤ k ∧ pg (k - d) = 59) := by unfold sem; exact decide_eq_false_iff_not
/-- a semicolon that fits stands behind a river -/
theorem fit_59 {k : Nat} (h : fitb pg k = true) (e : pg k = 59) : k % 4 = 3 ∧ 1 ≤ k / 4 := by
  unfold fitb at h
  rw [e] at h
  split at h
  · cases h
  · split at h
    · exact absurd h (by decide)
    · split at h
      · exact absurd h (by decide)
      · split at h
        · exact absurd h (by decide)
        · split at h
          · exact absurd h (by decide)
          · unfold fbr at h
            rw [if_neg (by decide), if_pos rfl, decide_eq_true_iff] at h
            omega
theorem fit_s2 {k : Nat} (h : fitb pg k = true) : sem pg k 2 = false := by
  unfold fitb at h
  cases c : sem pg k 2 with
  | false => rfl
  | true => rw [if_pos c] at h; cases h
theorem fit_s1 {k : Nat} (h : fitb pg k = true) (c : sem pg k 1 = true) : rng (pg k) 49 57 = true := by
  have c2 := fit_s2 h
  unfold fitb at h
  rw [if_neg (by rw [c2]; decide), if_pos c] at h
  exact h
theorem fit_0 {k : Nat} (h : fitb pg k = true) (c : sem pg k 1 = false) (e : k % 4 = 0) : (!decide (kb (pg k) < 0)) = true := by
  have c2 := fit_s2 h
  unfold fitb at h
  rw [if_neg (by rw [c2]; decide), if_neg (by rw [c]; decide), if_pos e] at h
  exact h
theorem fit_1 {k : Nat} (h : fitb pg k = true) (c : sem pg k 1 = false) (e : k % 4 = 1) : rng (pg k) 48 57 = true := by
  have c2 := fit_s2 h
  unfold fitb at h
  rw [if_neg (by rw [c2]; decide), if_neg (by rw [c]; decide), if_neg (by omega), if_pos e] at h
  exact h
theorem fit_2 {k : Nat} (h : fitb pg k = true) (c : sem pg k 1 = false) (e : k % 4 = 2) : rng (pg k) 48 53 = true := by
  have c2 := fit_s2 h
  unfold fitb at h
  rw [if_neg (by rw [c2]; decide), if_neg (by rw [c]; decide), if_neg (by omega), if_neg (by omega), if_pos e] at h
  exact h
theorem fit_3 {k : Nat} (h : fitb pg k = true) (c : sem pg k 1 = false) (e : k % 4 = 3) : fbr (pg k) (k / 4 + 1) = true := by
  have c2 := fit_s2 h
  unfold fitb at h
  rw [if_neg (by rw [c2]; decide), if_neg (by rw [c]; decide), if_neg (by omega), if_neg (by omega), if_neg (by omega)] at h
  exact h
/-- while no semicolon has come, there are at most five rivers -/
theorem k_19 {k : Nat} (h : ∀ j, j < k → fitb pg j = true) (c1 : sem pg k 1 = false) (c2 : sem pg k 2 = false) : k ≤ 19 := by
  refine Decidable.byContradiction (fun z => ?_)
  have n59 : ∀ j, j < k → ¬ pg j = 59 := by
    intro j hj e
    by_cases a : j + 1 = k
    · exact sem_f.mp c1 ⟨by omega, by rw [show k - 1 = j by omega]; exact e⟩
    · by_cases b : j + 2 = k
      · exact sem_f.mp c2 ⟨by omega, by rw [show k - 2 = j by omega]; exact e⟩
      · have := fit_s2 (h (j + 2) (by omega))
        exact sem_f.mp this ⟨by omega, by rw [show j + 2 - 2 = j by omega]; exact e⟩
  have h19 := fit_3 (h 19 (by omega)) (sem_f.mpr (fun q => n59 18 (by omega) q.2)) (by decide)
  unfold fbr at h19
  by_cases a : pg 19 = 44
  · rw [if_pos a] at h19; revert h19; decide
  · rw [if_neg a, if_neg (n59 19 (by omega))] at h19; cases h19
theorem gS_eq : ∀ k, (∀ j, j < k → fitb pg j = true) → gS pg k = stM pg k ∧ gR pg k = (k + 1) / 4 := by
  intro k
  induction k with
  | zero =>
    intro _
    refine ⟨?_, rfl⟩
    unfold stM
    rw [if_neg (fun z => absurd (sem_t.mp z).1 (by omega)), if_neg (fun z => absurd (sem_t.mp z).1 (by omega))]
    rfl
  | succ k ih =>
    intro h
    obtain ⟨i1, i2⟩ := ih (fun j hj => h j (by omega))
    have hk := h k (by omega)
    have c2 := fit_s2 hk
    show gst (gS pg k) (pg k) = _ ∧ grm (gS pg k) (gR pg k) = _
    rw [i1, i2]
    have e2 : sem pg (k + 1) 2 = sem pg k 1 := by
      unfold sem
      by_cases a : 1 ≤ k
      · rw [show k + 1 - 2 = k - 1 by omega]
        exact decide_eq_decide.mpr ⟨fun q => ⟨a, q.2⟩, fun q => ⟨by omega, q.2⟩⟩
      · rw [decide_eq_false (fun q => a (by omega)), decide_eq_false (fun q => a q.1)]
    have e1 : sem pg (k + 1) 1 = decide (pg k = 59) := by
      unfold sem
      exact decide_eq_decide.mpr ⟨fun q => q.2, fun q => ⟨by omega, q⟩⟩
    unfold stM
    rw [e2, e1, if_neg (by rw [c2]; decide)]
    cases c1 : sem pg k 1 with
    | true =>
      rw [if_pos rfl, if_pos rfl]
      have hr := fit_s1 hk c1
      have hk4 := fit_59 (h (k - 1) (by omega)) (sem_t.mp c1).2
      have l1 := (sem_t.mp c1).1
      refine ⟨rfl, ?_⟩
      show (if 4 = 2 then _ else _ : Nat) = _
      rw [if_neg (by decide)]; omega
    | false =>
      rw [if_neg (by decide), if_neg (by decide)]
      by_cases m3 : k % 4 = 3
      · have f3 := fit_3 hk c1 m3
        refine ⟨?_, by unfold grm; rw [if_neg (by omega)]; omega⟩
        unfold gst
        rw [if_pos m3]
        unfold fbr at f3
        by_cases a : pg k = 44
        · rw [if_pos a, if_neg (by rw [a]; decide)]; omega
        · rw [if_neg a] at f3
          rw [if_neg a]
          by_cases b : pg k = 59
          · rw [if_pos (decide_eq_true b)]
          · rw [if_neg b] at f3; cases f3
      · have n59 : ¬ pg k = 59 := fun e => m3 (fit_59 hk e).1
        rw [if_neg (by rw [decide_eq_false n59]; decide)]
        refine ⟨by unfold gst; rw [if_neg m3]; omega, ?_⟩
        unfold grm
        by_cases m2 : k % 4 = 2
        · rw [if_pos m2]; omega
        · rw [if_neg m2]; omega
theorem gS_le {k : Nat} (h : ∀ j, j < k → fitb pg j = true) : gS pg k ≤ 5 := by
  rw [(gS_eq k h).1]
  unfold stM
  split
  · omega
  · split
    · omega
    · have := Nat.mod_lt k (show 4 > 0 by decide); omega
theorem gR_4 {k : Nat} (h : ∀ j, j < k → fitb pg j = true) (hs : gS pg k ≤ 2) : gR pg k ≤ 4 := by
  rw [(gS_eq k h).1] at hs
  rw [(gS_eq k h).2]
  unfold stM at hs
  cases c2 : sem pg k 2 with
  | true => rw [if_pos c2] at hs; omega
  | false =>
    rw [if_neg (by rw [c2]; decide)] at hs
    cases c1 : sem pg k 1 with
    | true => rw [if_pos c1] at hs; omega
    | false =>
      rw [if_neg (by rw [c1]; decide)] at hs
      have := k_19 h c1 c2
      omega
theorem gfit_eq {k : Nat} (h : ∀ j, j < k → fitb pg j = true) (hc : pg k < 128) : gfit (gS pg k) (gR pg k) (pg k) = fitb pg k := by
  rw [(gS_eq k h).1, (gS_eq k h).2]
  cases c2 : sem pg k 2 with
  | true =>
    have e1 : stM pg k = 5 := by unfold stM; rw [if_pos c2]
    have e2 : fitb pg k = false := by unfold fitb; rw [if_pos c2]
    rw [e1, e2]; rfl
  | false =>
    have n2 : ¬ sem pg k 2 = true := by rw [c2]; decide
    cases c1 : sem pg k 1 with
    | true =>
      have e1 : stM pg k = 4 := by unfold stM; rw [if_neg n2, if_pos c1]
      have e2 : fitb pg k = rng (pg k) 49 57 := by unfold fitb; rw [if_neg n2, if_pos c1]
      rw [e1, e2]; rfl
    | false =>
      have n1 : ¬ sem pg k 1 = true := by rw [c1]; decide
      have e1 : stM pg k = k % 4 := by unfold stM; rw [if_neg n2, if_neg n1]
      rw [e1]
      unfold fitb
      rw [if_neg n2, if_neg n1]
      unfold gfit
      by_cases m0 : k % 4 = 0
      · rw [if_pos m0, if_pos m0, kb_neg _ hc]
      · rw [if_neg m0, if_neg m0]
        by_cases m1 : k % 4 = 1
        · rw [if_pos m1, if_pos m1]
        · rw [if_neg m1, if_neg m1]
          by_cases m2 : k % 4 = 2
          · rw [if_pos m2, if_pos m2]
          · rw [if_neg m2, if_neg m2, if_pos (by omega)]
            unfold fbr
            have e : (k + 1) / 4 = k / 4 + 1 := by omega
            rw [e]
            rfl
/-- a page that is a coast -/
theorem coast_n {ps : Nat} (h : hcb pg ps = true) : (∀ j, j < ps → fitb pg j = true) ∧ ff pg ps = ps ∧ sem pg ps 2 = true ∧ gS pg ps = 5 ∧ ∃ n, 2 ≤ n ∧ n ≤ 5 ∧ ps = n * 4 + 1 := by
  unfold hcb at h
  rw [Bool.and_eq_true, decide_eq_true_iff] at h
  obtain ⟨h1, h2⟩ := h
  have ha := ff_all h1
  obtain ⟨l2, e59⟩ := sem_t.mp h2
  obtain ⟨m3, g1⟩ := fit_59 (ha (ps - 2) (by omega)) e59
  have c1 : sem pg (ps - 2) 1 = false := by
    cases c : sem pg (ps - 2) 1 with
    | false => rfl
    | true =>
      have := fit_s1 (ha (ps - 2) (by omega)) c
      rw [e59] at this; revert this; decide
  have h19 := k_19 (k := ps - 2) (fun j hj => ha j (by omega)) c1 (fit_s2 (ha (ps - 2) (by omega)))
  refine ⟨ha, h1, h2, ?_, ps / 4, by omega, by omega, by omega⟩
  rw [(gS_eq ps ha).1]
  unfold stM
  rw [if_pos h2]
theorem coast_no {ps : Nat} (h : hcb pg ps = false) (h1 : ff pg ps = ps) : ¬ gS pg ps = 5 := by
  have ha := ff_all h1
  unfold hcb at h
  rw [decide_eq_true h1, Bool.true_and] at h
  rw [(gS_eq ps ha).1]
  unfold stM
  rw [if_neg (by rw [h]; decide)]
  split
  · decide
  · have := Nat.mod_lt ps (show 4 > 0 by decide); omega
section Read
variable {n : Nat} {d : Nat → Int32} {b : Int32} (ha : ∀ j, j < n * 4 + 1 → fitb pg j = true) (hs : sem pg (n * 4 + 1) 2 = true)
theorem no_sem (ha : ∀ j, j < n * 4 + 1 → fitb pg j = true) {k : Nat} (hk : k < n * 4) : sem pg k 1 = false := by
  cases c : sem pg k 1 with
  | false => rfl
  | true =>
    obtain ⟨l1, e⟩ := sem_t.mp c
    exact absurd (fit_s2 (ha (k + 1) (by omega))) (fun z => sem_f.mp z ⟨by omega, by rw [show k + 1 - 2 = k - 1 by omega]; exact e⟩)
theorem gS_k (ha : ∀ j, j < n * 4 + 1 → fitb pg j = true) {k : Nat} (hk : k < n * 4) : gS pg k = k % 4 := by
  rw [(gS_eq k (fun j hj => ha j (by omega))).1]
  unfold stM
  rw [if_neg (by rw [fit_s2 (ha k (by omega))]; decide), if_neg (by rw [no_sem ha hk]; decide)]
theorem gS_4n (ha : ∀ j, j < n * 4 + 1 → fitb pg j = true) (hs : sem pg (n * 4 + 1) 2 = true) (hn : 2 ≤ n) : gS pg (n * 4) = 4 := by
  rw [(gS_eq (n * 4) (fun j hj => ha j (by omega))).1]
  unfold stM
  have e : sem pg (n * 4) 1 = true := by
    obtain ⟨l, q⟩ := sem_t.mp hs
    exact sem_t.mpr ⟨by omega, by rw [show n * 4 - 1 = n * 4 + 1 - 2 by omega]; exact q⟩
  rw [if_neg (by rw [fit_s2 (ha (n * 4) (by omega))]; decide), if_pos e]
theorem gB_e (ha : ∀ j, j < n * 4 + 1 → fitb pg j = true) (hs : sem pg (n * 4 + 1) 2 = true) (hn : 2 ≤ n) : gB pg b (n * 4 + 1) = nI (pg (n * 4)) - 48 := by
  show grb (gS pg (n * 4)) _ _ = _
  rw [gS_4n ha hs hn]
  rfl
theorem gD_k (ha : ∀ j, j < n * 4 + 1 → fitb pg j = true) : ∀ k, k ≤ n * 4 → ∀ r, (r * 4 < k → gD pg d k (3 * r) = kb (pg (r * 4))) ∧ (r * 4 + 1 < k → gD pg d k (3 * r + 1) = nI (pg (r * 4 + 1)) - 48) ∧ (r * 4 + 2 < k → gD pg d k (3 * r + 2) = nI (pg (r * 4 + 2)) - 48) := by
  intro k
  induction k with
  | zero => intro _ r; exact ⟨fun z => by omega, fun z => by omega, fun z => by omega⟩
  | succ k ih =>
    intro hk r
    obtain ⟨i0, i1, i2⟩ := ih (by omega) r
    have es := gS_k ha (k := k) (by omega)
    have er := (gS_eq k (fun j hj => ha j (by omega))).2
    have eD : gD pg d (k + 1) = grd (k % 4) ((k + 1) / 4) (pg k) (gD pg d k) := by
      show grd (gS pg k) (gR pg k) _ _ = _
      rw [es, er]
    rw [eD]
    unfold grd
    by_cases m0 : k % 4 = 0
    · rw [if_pos m0]
      refine ⟨fun z => ?_, fun z => ?_, fun z => ?_⟩
      · by_cases e : r * 4 = k
        · rw [show 3 * r = 3 * ((k + 1) / 4) by omega, upd_s, ← e]
        · rw [upd_n (by omega)]; exact i0 (by omega)
      · rw [upd_n (by omega)]; exact i1 (by omega)
      · rw [upd_n (by omega)]; exact i2 (by omega)
    · rw [if_neg m0]
      by_cases m1 : k % 4 = 1
      · rw [if_pos m1]
        refine ⟨fun z => ?_, fun z => ?_, fun z => ?_⟩
        · rw [upd_n (by omega)]; exact i0 (by omega)
        · by_cases e : r * 4 + 1 = k
          · rw [show 3 * r + 1 = 3 * ((k + 1) / 4) + 1 by omega, upd_s, ← e]
          · rw [upd_n (by omega)]; exact i1 (by omega)
        · rw [upd_n (by omega)]; exact i2 (by omega)
      · rw [if_neg m1]
        by_cases m2 : k % 4 = 2
        · rw [if_pos m2]
          refine ⟨fun z => ?_, fun z => ?_, fun z => ?_⟩
          · rw [upd_n (by omega)]; exact i0 (by omega)
          · rw [upd_n (by omega)]; exact i1 (by omega)
          · by_cases e : r * 4 + 2 = k
            · rw [show 3 * r + 2 = 3 * ((k + 1) / 4) + 2 by omega, upd_s, ← e]
            · rw [upd_n (by omega)]; exact i2 (by omega)
        · rw [if_neg m2]
          exact ⟨fun z => i0 (by omega), fun z => i1 (by omega), fun z => i2 (by omega)⟩
theorem gD_e (ha : ∀ j, j < n * 4 + 1 → fitb pg j = true) (hs : sem pg (n * 4 + 1) 2 = true) (hn : 2 ≤ n) {r : Nat} (hr : r < n) : gD pg d (n * 4 + 1) (3 * r) = kb (pg (r * 4)) ∧ gD pg d (n * 4 + 1) (3 * r + 1) = nI (pg (r * 4 + 1)) - 48 ∧ gD pg d (n * 4 + 1) (3 * r + 2) = nI (pg (r * 4 + 2)) - 48 := by
  have e : gD pg d (n * 4 + 1) = gD pg d (n * 4) := by
    show grd (gS pg (n * 4)) _ _ _ = _
    rw [gS_4n ha hs hn]
    rfl
  rw [e]
  obtain ⟨a, b, c⟩ := gD_k (d := d) ha (n * 4) (Nat.le_refl _) r
  exact ⟨a (by omega), b (by omega), c (by omega)⟩
end Read
theorem ffl_cg {f f' g : Nat → Int32} {n : Nat} (h : ∀ j, j < n → f j = f' j) (j : Nat) : ffl f g n j = ffl f' g n j := by
  unfold ffl
  by_cases c : j < n
  · rw [if_pos c, if_pos c]; exact h j c
  · rw [if_neg c, if_neg c]
end Pure7
end
section
set_option maxHeartbeats 4000000 in
set_option maxRecDepth 100000 in
theorem c_X8_in (l : Launch) (D : va_G) (cI cZ : ClassId) (kS vS : Nat) (v : Int64) (lo : Int64) (hi : Int64)  : CI l yX8_in cX8_in 6 .boolean D cI cZ kS vS 0 0 0 0 [.long v, .long lo, .long hi] [] (fun (r : Int32) (_ : Unit) => r = bI (lin v lo hi)) (fun (_ : Unit) => []) := by
  refine CI_intro (by decide) (Nat.le_of_ble_eq_true rfl) ?_
  intro p e s m args below meth c A Q ls C h hret hl
  have C : CX p s m args c cX8_in 6 RX8 D cI cZ kS vS A := C
  have hx := C.1.1
  have hb := C.1.2.1
  have hl : lv_has ls 6 [(0, .long v), (2, .long lo), (4, .long hi)] := hl
  refine lv_lload_n hx hb dX8_in_0 rfl (lv_at hl 0 rfl) ?_
  refine lv_lload_n hx hb dX8_in_1 rfl (lv_at hl 1 rfl) ?_
  refine W.lcmp hx hb dX8_in_2 ?_
  refine lv_if_lt (tgt := 17) hx hb dX8_in_3 (by decide) (fun c_3 => ?_) (fun c_3 => ?_)
  · skip
    refine lv_iconst (v := 0) hx hb dX8_in_17 (by decide) ?_
    exact hret (r := 0) () dX8_in_18 h (rfl) (by simp [lin, bI, c_3])
  · skip
    refine lv_lload_n hx hb dX8_in_6 rfl (lv_at hl 0 rfl) ?_
    refine lv_lload hx hb dX8_in_7 (lv_at hl 2 rfl) ?_
    refine W.lcmp hx hb dX8_in_9 ?_
    refine lv_if_gt (tgt := 17) hx hb dX8_in_10 (by decide) (fun c_10 => ?_) (fun c_10 => ?_)
    · skip
      refine lv_iconst (v := 0) hx hb dX8_in_17 (by decide) ?_
      exact hret (r := 0) () dX8_in_18 h (rfl) (by simp [lin, bI, c_3, c_10])
    · skip
      refine lv_iconst (v := 1) hx hb dX8_in_13 (by decide) ?_
      refine lv_goto (tgt := 18) hx hb dX8_in_14 (by decide) ?_
      exact hret (r := 1) () dX8_in_18 h (rfl) (by simp [lin, bI, c_3, c_10])

set_option maxHeartbeats 4000000 in
set_option maxRecDepth 100000 in
theorem c_X8_copy5 (l : Launch) (D : va_G) (cI cZ : ClassId) (kS vS : Nat) (a0 : Nat) (a1 : Nat) (f : Nat → Int32) (g : Nat → Int32)  : CV l yX8_copy cX8_copy 3 D cI cZ kS vS 0 0 0 0 [.ref a0, .ref a1] [(a0, .inl (cI, 5, .inl f)), (a1, .inl (cI, 5, .inl g))] (fun (_ : Unit) => True) (fun (_ : Unit) => [(a0, .inl (cI, 5, .inl f)), (a1, .inl (cI, 5, .inl f))]) := by
  refine CV_intro (by decide) (Nat.le_of_ble_eq_true rfl) ?_
  intro p e s m args below meth c A Q ls C hini h hret hl
  have C : CX p s m args c cX8_copy 3 RX8 D cI cZ kS vS A := C
  have hx := C.1.1
  have hb := C.1.2.1
  have hl : lv_has ls 3 [(0, .ref a0), (1, .ref a1)] := hl
  refine lv_iconst (v := 0) hx hb dX8_copy_0 (by decide) ?_
  refine lv_istore_n (lv' := [(2, .int 0), (0, .ref a0), (1, .ref a1)]) hx hb dX8_copy_1 rfl hl (by decide) rfl (fun ls hl => ?_)
  have L2 : ∀ (fu : Nat) (i : Nat), (5 - i) < fu → (hi : i ≤ 5) → ∀ (H : Heap) (locs : List Loc) (ls : Array Slot), HS D A s H locs [(a0, .inl (cI, 5, .inl f)), (a1, .inl (cI, 5, .inl (va_cpy f g 0 0 i)))] → lv_has ls 3 [(0, .ref a0), (1, .ref a1), (2, .int (nI i))] → W p l e (rmO 0 0 0 0) s m args below meth c H locs 0 0 Q (F0 m 2 ls []) := by
    intro fu
    induction fu with
    | zero => intro i hfu; exact absurd hfu (Nat.not_lt_zero _)
    | succ fu ih2 =>
      intro i hfu hi H locs ls h hl
      refine lv_iload_n hx hb dX8_copy_2 rfl (lv_at hl 2 rfl) ?_
      refine lv_aload_n hx hb dX8_copy_3 rfl (lv_at hl 0 rfl) ?_
      refine r_alen C h 0 rfl dX8_copy_4 ?_
      refine lv_icmp_ge (tgt := 20) hx hb dX8_copy_5 (by decide) (fun c_5 => ?_) (fun c_5 => ?_)
      · skip
        have c_5 := (jle (a := 5) (b := i) (by omega) (by omega)).mp c_5
        obtain rfl : 5 = i := by omega
        have h := h.arr 1 (g := f) rfl (fun j hj => cpy_all hj) rfl
        exact hret () dX8_copy_20 h (trivial)
      · skip
        have c_5 : ¬ 5 ≤ i := fun z => c_5 ((jle (a := 5) (b := i) (by omega) (by omega)).mpr z)
        have hlt : i < 5 := by omega
        refine lv_aload_n hx hb dX8_copy_8 rfl (lv_at hl 1 rfl) ?_
        refine lv_iload_n hx hb dX8_copy_9 rfl (lv_at hl 2 rfl) ?_
        refine lv_aload_n hx hb dX8_copy_10 rfl (lv_at hl 0 rfl) ?_
        refine lv_iload_n hx hb dX8_copy_11 rfl (lv_at hl 2 rfl) ?_
        refine r_ld C h 0 rfl i (rfl) (by omega) (by decide) (x := f i) (rfl) dX8_copy_12 ?_
        refine r_st C h 1 rfl i (rfl) (by omega) (by decide) (g := upd (va_cpy f g 0 0 i) i (f i)) (fun _ _ => rfl) (ws' := [(a0, .inl (cI, 5, .inl f)), (a1, .inl (cI, 5, .inl (upd (va_cpy f g 0 0 i) i (f i))))]) rfl dX8_copy_13 (fun H locs h => ?_)
        refine lv_iinc (v := nI (i + 1)) (lv' := [(2, .int (nI (i + 1))), (0, .ref a0), (1, .ref a1)]) hx hb dX8_copy_14 hl (k := 2) rfl (nI_1 i) (by decide) rfl (fun ls hl => ?_)
        refine lv_goto (tgt := 2) hx hb dX8_copy_17 (by decide) ?_
        have h := h.arr 1 (g := va_cpy f g 0 0 (i + 1)) rfl (fun j _ => cpy_s j) rfl
        exact ih2  (i + 1) (by omega) (by first | assumption | omega) _ _ _ h (lv_sub hl [1, 2, 0] rfl)
  have h := h.arr 1 (g := va_cpy f g 0 0 0) rfl (fun j _ => cpy_0 j) rfl
  exact L2 ((5 - 0) + 1) 0 (by omega) (by first | assumption | omega) _ _ _ h (lv_sub hl [1, 2, 0] rfl)

set_option maxHeartbeats 4000000 in
set_option maxRecDepth 100000 in
theorem c_X8_copy18 (l : Launch) (D : va_G) (cI cZ : ClassId) (kS vS : Nat) (a0 : Nat) (a1 : Nat) (f : Nat → Int32) (g : Nat → Int32)  : CV l yX8_copy cX8_copy 3 D cI cZ kS vS 0 0 0 0 [.ref a0, .ref a1] [(a0, .inl (cI, 18, .inl f)), (a1, .inl (cI, 18, .inl g))] (fun (_ : Unit) => True) (fun (_ : Unit) => [(a0, .inl (cI, 18, .inl f)), (a1, .inl (cI, 18, .inl f))]) := by
  refine CV_intro (by decide) (Nat.le_of_ble_eq_true rfl) ?_
  intro p e s m args below meth c A Q ls C hini h hret hl
  have C : CX p s m args c cX8_copy 3 RX8 D cI cZ kS vS A := C
  have hx := C.1.1
  have hb := C.1.2.1
  have hl : lv_has ls 3 [(0, .ref a0), (1, .ref a1)] := hl
  refine lv_iconst (v := 0) hx hb dX8_copy_0 (by decide) ?_
  refine lv_istore_n (lv' := [(2, .int 0), (0, .ref a0), (1, .ref a1)]) hx hb dX8_copy_1 rfl hl (by decide) rfl (fun ls hl => ?_)
  have L2 : ∀ (fu : Nat) (i : Nat), (18 - i) < fu → (hi : i ≤ 18) → ∀ (H : Heap) (locs : List Loc) (ls : Array Slot), HS D A s H locs [(a0, .inl (cI, 18, .inl f)), (a1, .inl (cI, 18, .inl (va_cpy f g 0 0 i)))] → lv_has ls 3 [(0, .ref a0), (1, .ref a1), (2, .int (nI i))] → W p l e (rmO 0 0 0 0) s m args below meth c H locs 0 0 Q (F0 m 2 ls []) := by
    intro fu
    induction fu with
    | zero => intro i hfu; exact absurd hfu (Nat.not_lt_zero _)
    | succ fu ih2 =>
      intro i hfu hi H locs ls h hl
      refine lv_iload_n hx hb dX8_copy_2 rfl (lv_at hl 2 rfl) ?_
      refine lv_aload_n hx hb dX8_copy_3 rfl (lv_at hl 0 rfl) ?_
      refine r_alen C h 0 rfl dX8_copy_4 ?_
      refine lv_icmp_ge (tgt := 20) hx hb dX8_copy_5 (by decide) (fun c_5 => ?_) (fun c_5 => ?_)
      · skip
        have c_5 := (jle (a := 18) (b := i) (by omega) (by omega)).mp c_5
        obtain rfl : 18 = i := by omega
        have h := h.arr 1 (g := f) rfl (fun j hj => cpy_all hj) rfl
        exact hret () dX8_copy_20 h (trivial)
      · skip
        have c_5 : ¬ 18 ≤ i := fun z => c_5 ((jle (a := 18) (b := i) (by omega) (by omega)).mpr z)
        have hlt : i < 18 := by omega
        refine lv_aload_n hx hb dX8_copy_8 rfl (lv_at hl 1 rfl) ?_
        refine lv_iload_n hx hb dX8_copy_9 rfl (lv_at hl 2 rfl) ?_
        refine lv_aload_n hx hb dX8_copy_10 rfl (lv_at hl 0 rfl) ?_
        refine lv_iload_n hx hb dX8_copy_11 rfl (lv_at hl 2 rfl) ?_
        refine r_ld C h 0 rfl i (rfl) (by omega) (by decide) (x := f i) (rfl) dX8_copy_12 ?_
        refine r_st C h 1 rfl i (rfl) (by omega) (by decide) (g := upd (va_cpy f g 0 0 i) i (f i)) (fun _ _ => rfl) (ws' := [(a0, .inl (cI, 18, .inl f)), (a1, .inl (cI, 18, .inl (upd (va_cpy f g 0 0 i) i (f i))))]) rfl dX8_copy_13 (fun H locs h => ?_)
        refine lv_iinc (v := nI (i + 1)) (lv' := [(2, .int (nI (i + 1))), (0, .ref a0), (1, .ref a1)]) hx hb dX8_copy_14 hl (k := 2) rfl (nI_1 i) (by decide) rfl (fun ls hl => ?_)
        refine lv_goto (tgt := 2) hx hb dX8_copy_17 (by decide) ?_
        have h := h.arr 1 (g := va_cpy f g 0 0 (i + 1)) rfl (fun j _ => cpy_s j) rfl
        exact ih2  (i + 1) (by omega) (by first | assumption | omega) _ _ _ h (lv_sub hl [1, 2, 0] rfl)
  have h := h.arr 1 (g := va_cpy f g 0 0 0) rfl (fun j _ => cpy_0 j) rfl
  exact L2 ((18 - 0) + 1) 0 (by omega) (by first | assumption | omega) _ _ _ h (lv_sub hl [1, 2, 0] rfl)

set_option maxHeartbeats 4000000 in
set_option maxRecDepth 100000 in
theorem c_X8_lacks (l : Launch) (D : va_G) (cI cZ : ClassId) (kS vS : Nat) (p0 : Nat) (p1 : Nat) (p2 : Nat) (p3 : Nat) (p4 : Nat) (p5 : Nat) (p6 : Nat) (p7 : Nat) (p8 : Nat) (p9 : Nat) (p10 : Nat) (p11 : Nat) (p12 : Nat) (p13 : Nat) (p14 : Nat) (p15 : Nat) (p16 : Nat) (p17 : Nat) (n : Nat) (pgm : Int32) (rdm : Int32) (rdb : Int32) (stt : Int32) (bar : Int32) (hrs : Int32) (crd : Int32) (tof : Int32) (tmu : Int32) (bdn : Int32) (snm : Int32) (sdn : Int32) (kcs : Int32) (khr : Int32) (ksn : Int32) (hlg : Int64) (hn5 : n ≤ 5) : CI l yX8_lacks cX8_lacks 1 .boolean D cI cZ kS vS 0 0 0 0 [.ref p0] [(p0, .inr (8, [.ref p1, .int pgm, .ref p2, .int rdm, .int rdb, .int stt, .int (nI n), .int bar, .int hrs, .int crd, .ref p3, .ref p4, .ref p5, .ref p6, .ref p7, .int tof, .int tmu, .ref p8, .ref p9, .int bdn, .ref p10, .int snm, .ref p11, .ref p12, .ref p13, .int sdn, .int kcs, .int khr, .int ksn, .ref p14, .ref p15, .ref p16, .ref p17, .long hlg]))] (fun (r : Int32) (_ : Unit) => r = bI (decide (n = 0))) (fun (_ : Unit) => [(p0, .inr (8, [.ref p1, .int pgm, .ref p2, .int rdm, .int rdb, .int stt, .int (nI n), .int bar, .int hrs, .int crd, .ref p3, .ref p4, .ref p5, .ref p6, .ref p7, .int tof, .int tmu, .ref p8, .ref p9, .int bdn, .ref p10, .int snm, .ref p11, .ref p12, .ref p13, .int sdn, .int kcs, .int khr, .int ksn, .ref p14, .ref p15, .ref p16, .ref p17, .long hlg]))]) := by
  refine CI_intro (by decide) (Nat.le_of_ble_eq_true rfl) ?_
  intro p e s m args below meth c A Q ls C h hret hl
  have C : CX p s m args c cX8_lacks 1 RX8 D cI cZ kS vS A := C
  have hx := C.1.1
  have hb := C.1.2.1
  have hl : lv_has ls 1 [(0, .ref p0)] := hl
  refine lv_aload_n hx hb dX8_lacks_0 rfl (lv_at hl 0 rfl) ?_
  refine r_get C h fk8 0 6 rfl (by decide) mf_RX8_99 rfl dX8_lacks_1 ?_
  refine lv_if_ne (tgt := 11) hx hb dX8_lacks_4 (by decide) (fun c_4 => ?_) (fun c_4 => ?_)
  · skip
    have c_4 : ¬ n = 0 := fun z => c_4 ((jeq (a := n) (b := 0) (by omega) (by omega)).mpr z)
    refine lv_iconst (v := 0) hx hb dX8_lacks_11 (by decide) ?_
    exact hret (r := 0) () dX8_lacks_12 h (rfl) (by simp [bI, c_4])
  · skip
    have c_4 := (jeq (a := n) (b := 0) (by omega) (by omega)).mp c_4
    refine lv_iconst (v := 1) hx hb dX8_lacks_7 (by decide) ?_
    refine lv_goto (tgt := 12) hx hb dX8_lacks_8 (by decide) ?_
    exact hret (r := 1) () dX8_lacks_12 h (rfl) (by simp [bI, c_4])

set_option maxHeartbeats 4000000 in
set_option maxRecDepth 100000 in
theorem c_X8_isRiver (l : Launch) (D : va_G) (cI cZ : ClassId) (kS vS : Nat) (p0 : Nat) (p1 : Nat) (p2 : Nat) (p3 : Nat) (p4 : Nat) (p5 : Nat) (p6 : Nat) (p7 : Nat) (p8 : Nat) (p9 : Nat) (p10 : Nat) (p11 : Nat) (p12 : Nat) (p13 : Nat) (p14 : Nat) (p15 : Nat) (p16 : Nat) (p17 : Nat) (n : Nat) (pgm : Int32) (rdm : Int32) (rdb : Int32) (stt : Int32) (bar : Int32) (hrs : Int32) (crd : Int32) (tof : Int32) (tmu : Int32) (bdn : Int32) (snm : Int32) (sdn : Int32) (kcs : Int32) (khr : Int32) (ksn : Int32) (hlg : Int64) (x : Int32) (hn5 : n ≤ 5) : CI l yX8_isRiver cX8_isRiver 2 .boolean D cI cZ kS vS 1 25 0 0 [.ref p0, .int x] [(p0, .inr (8, [.ref p1, .int pgm, .ref p2, .int rdm, .int rdb, .int stt, .int (nI n), .int bar, .int hrs, .int crd, .ref p3, .ref p4, .ref p5, .ref p6, .ref p7, .int tof, .int tmu, .ref p8, .ref p9, .int bdn, .ref p10, .int snm, .ref p11, .ref p12, .ref p13, .int sdn, .int kcs, .int khr, .int ksn, .ref p14, .ref p15, .ref p16, .ref p17, .long hlg]))] (fun (r : Int32) (_ : Unit) => r = bI (hin (nI n) x)) (fun (_ : Unit) => [(p0, .inr (8, [.ref p1, .int pgm, .ref p2, .int rdm, .int rdb, .int stt, .int (nI n), .int bar, .int hrs, .int crd, .ref p3, .ref p4, .ref p5, .ref p6, .ref p7, .int tof, .int tmu, .ref p8, .ref p9, .int bdn, .ref p10, .int snm, .ref p11, .ref p12, .ref p13, .int sdn, .int kcs, .int khr, .int ksn, .ref p14, .ref p15, .ref p16, .ref p17, .long hlg]))]) := by
  refine CI_intro (by decide) (Nat.le_of_ble_eq_true rfl) ?_
  intro p e s m args below meth c A Q ls C h hret hl
  have C : CX p s m args c cX8_isRiver 2 RX8 D cI cZ kS vS A := C
  have hx := C.1.1
  have hb := C.1.2.1
  have hl : lv_has ls 2 [(0, .ref p0), (1, .int x)] := hl
  refine lv_iload_n hx hb dX8_isRiver_0 rfl (lv_at hl 1 rfl) ?_
  refine lv_i2l hx hb dX8_isRiver_1 rfl ?_
  refine lv_lconst (v := 0) hx hb dX8_isRiver_2 (by decide) ?_
  refine lv_aload_n hx hb dX8_isRiver_3 rfl (lv_at hl 0 rfl) ?_
  refine r_get C h fk8 0 6 rfl (by decide) mf_RX8_99 rfl dX8_isRiver_4 ?_
  refine lv_iconst (v := 1) hx hb dX8_isRiver_7 (by decide) ?_
  refine lv_isub hx hb dX8_isRiver_8 ?_
  refine lv_i2l hx hb dX8_isRiver_9 rfl ?_
  refine k_Si (rest := []) (as := [.long (Int32.toInt64 x), .long 0, .long (Int32.toInt64 ((nI n) - 1))]) (wc := []) (wr := [(p0, .inr (8, [.ref p1, .int pgm, .ref p2, .int rdm, .int rdb, .int stt, .int (nI n), .int bar, .int hrs, .int crd, .ref p3, .ref p4, .ref p5, .ref p6, .ref p7, .int tof, .int tmu, .ref p8, .ref p9, .int bdn, .ref p10, .int snm, .ref p11, .ref p12, .ref p13, .int sdn, .int kcs, .int khr, .int ksn, .ref p14, .ref p15, .ref p16, .ref p17, .long hlg]))]) (isC := []) (isR := [0]) (w2 := fun (_ : Unit) => [(p0, .inr (8, [.ref p1, .int pgm, .ref p2, .int rdm, .int rdb, .int stt, .int (nI n), .int bar, .int hrs, .int crd, .ref p3, .ref p4, .ref p5, .ref p6, .ref p7, .int tof, .int tmu, .ref p8, .ref p9, .int bdn, .ref p10, .int snm, .ref p11, .ref p12, .ref p13, .int sdn, .int kcs, .int khr, .int ksn, .ref p14, .ref p15, .ref p16, .ref p17, .long hlg]))]) C h (c_X8_in l D cI cZ kS vS (Int32.toInt64 x) 0 (Int32.toInt64 ((nI n) - 1)) ) wv_X8_in rfl ⟨rfl, rfl, rfl, rfl, by decide⟩ ml_RX8_67 [0] rfl (fun _ => rfl) ⟨Nat.le_of_ble_eq_true rfl, Nat.le_of_ble_eq_true rfl⟩ ⟨Nat.le_of_ble_eq_true rfl, Nat.le_of_ble_eq_true rfl⟩ (Nat.le_of_ble_eq_true rfl) hl rfl dX8_isRiver_10 (fun r u H locs hq h => ?_)
  have h : HS D A s H locs [(p0, .inr (8, [.ref p1, .int pgm, .ref p2, .int rdm, .int rdb, .int stt, .int (nI n), .int bar, .int hrs, .int crd, .ref p3, .ref p4, .ref p5, .ref p6, .ref p7, .int tof, .int tmu, .ref p8, .ref p9, .int bdn, .ref p10, .int snm, .ref p11, .ref p12, .ref p13, .int sdn, .int kcs, .int khr, .int ksn, .ref p14, .ref p15, .ref p16, .ref p17, .long hlg]))] := h
  have hq : r = bI (lin (Int32.toInt64 x) 0 (Int32.toInt64 ((nI n) - 1))) := hq
  have hq := hq.symm
  subst hq
  refine r_top (y := bI (hin (nI n) x)) (congrArg bI (lin_hin (by omega) x)) ?_
  exact hret (r := bI (hin (nI n) x)) () dX8_isRiver_13 h (bI_nar _) (rfl)

set_option maxHeartbeats 4000000 in
set_option maxRecDepth 100000 in
theorem c_X8_pushes (l : Launch) (D : va_G) (cI cZ : ClassId) (kS vS : Nat) (p0 : Nat) (p1 : Nat) (p2 : Nat) (p3 : Nat) (p4 : Nat) (p5 : Nat) (p6 : Nat) (p7 : Nat) (p8 : Nat) (p9 : Nat) (p10 : Nat) (p11 : Nat) (p12 : Nat) (p13 : Nat) (p14 : Nat) (p15 : Nat) (p16 : Nat) (p17 : Nat) (n : Nat) (pgm : Int32) (rdm : Int32) (rdb : Int32) (stt : Int32) (bar : Int32) (hrs : Int32) (crd : Int32) (tof : Int32) (tmu : Int32) (bdn : Int32) (snm : Int32) (sdn : Int32) (kcs : Int32) (khr : Int32) (ksn : Int32) (hlg : Int64) (w : Nat → Int32) (K : Nat → Int32) (b : Nat) (a : Nat) (hb5 : b < 5) (ha5 : a < 5) (hK : K b = 0 ∨ K b = 1 ∨ K b = 2 ∨ K b = 3 ∨ K b = 4) : CI l yX8_pushes cX8_pushes 6 .boolean D cI cZ kS vS 0 0 0 0 [.ref p0, .int (nI b), .int (nI a)] [(p0, .inr (8, [.ref p1, .int pgm, .ref p2, .int rdm, .int rdb, .int stt, .int (nI n), .int bar, .int hrs, .int crd, .ref p3, .ref p4, .ref p5, .ref p6, .ref p7, .int tof, .int tmu, .ref p8, .ref p9, .int bdn, .ref p10, .int snm, .ref p11, .ref p12, .ref p13, .int sdn, .int kcs, .int khr, .int ksn, .ref p14, .ref p15, .ref p16, .ref p17, .long hlg])), (p3, .inl (cI, 5, .inl K)), (p5, .inl (cI, 5, .inl w))] (fun (r : Int32) (_ : Unit) => r = bI (hps K w b a)) (fun (_ : Unit) => [(p0, .inr (8, [.ref p1, .int pgm, .ref p2, .int rdm, .int rdb, .int stt, .int (nI n), .int bar, .int hrs, .int crd, .ref p3, .ref p4, .ref p5, .ref p6, .ref p7, .int tof, .int tmu, .ref p8, .ref p9, .int bdn, .ref p10, .int snm, .ref p11, .ref p12, .ref p13, .int sdn, .int kcs, .int khr, .int ksn, .ref p14, .ref p15, .ref p16, .ref p17, .long hlg])), (p3, .inl (cI, 5, .inl K)), (p5, .inl (cI, 5, .inl w))]) := by
  refine CI_intro (by decide) (Nat.le_of_ble_eq_true rfl) ?_
  intro p e s m args below meth c A Q ls C h hret hl
  have C : CX p s m args c cX8_pushes 6 RX8 D cI cZ kS vS A := C
  have hx := C.1.1
  have hb := C.1.2.1
  have hl : lv_has ls 6 [(0, .ref p0), (1, .int (nI b)), (2, .int (nI a))] := hl
  refine lv_aload_n hx hb dX8_pushes_0 rfl (lv_at hl 0 rfl) ?_
  refine r_get C h fk8 0 10 rfl (by decide) mf_RX8_16 rfl dX8_pushes_1 ?_
  refine lv_iload_n hx hb dX8_pushes_4 rfl (lv_at hl 1 rfl) ?_
  refine r_ld C h 1 rfl b (rfl) (by omega) (by decide) (x := K b) (rfl) dX8_pushes_5 ?_
  refine lv_istore_n (lv' := [(3, .int (K b)), (0, .ref p0), (1, .int (nI b)), (2, .int (nI a))]) hx hb dX8_pushes_6 rfl hl (by decide) rfl (fun ls hl => ?_)
  refine lv_aload_n hx hb dX8_pushes_7 rfl (lv_at hl 1 rfl) ?_
  refine r_get C h fk8 0 12 rfl (by decide) mf_RX8_22 rfl dX8_pushes_8 ?_
  refine lv_iload_n hx hb dX8_pushes_11 rfl (lv_at hl 2 rfl) ?_
  refine r_ld C h 2 rfl b (rfl) (by omega) (by decide) (x := w b) (rfl) dX8_pushes_12 ?_
  refine lv_istore (lv' := [(4, .int (w b)), (3, .int (K b)), (0, .ref p0), (1, .int (nI b)), (2, .int (nI a))]) hx hb dX8_pushes_13 hl (by decide) rfl (fun ls hl => ?_)
  refine lv_aload_n hx hb dX8_pushes_15 rfl (lv_at hl 2 rfl) ?_
  refine r_get C h fk8 0 12 rfl (by decide) mf_RX8_22 rfl dX8_pushes_16 ?_
  refine lv_iload_n hx hb dX8_pushes_19 rfl (lv_at hl 4 rfl) ?_
  refine r_ld C h 2 rfl a (rfl) (by omega) (by decide) (x := w a) (rfl) dX8_pushes_20 ?_
  refine lv_istore (lv' := [(5, .int (w a)), (4, .int (w b)), (3, .int (K b)), (0, .ref p0), (1, .int (nI b)), (2, .int (nI a))]) hx hb dX8_pushes_21 hl (by decide) rfl (fun ls hl => ?_)
  refine lv_iload_n hx hb dX8_pushes_23 rfl (lv_at hl 2 rfl) ?_
  refine lv_iconst (v := 3) hx hb dX8_pushes_24 (by decide) ?_
  refine lv_icmp_ne (tgt := 30) hx hb dX8_pushes_25 (by decide) (fun c_25 => ?_) (fun c_25 => ?_)
  · skip
    refine lv_aload_n hx hb dX8_pushes_30 rfl (lv_at hl 3 rfl) ?_
    refine r_get C h fk8 0 10 rfl (by decide) mf_RX8_16 rfl dX8_pushes_31 ?_
    refine lv_iload_n hx hb dX8_pushes_34 rfl (lv_at hl 5 rfl) ?_
    refine r_ld C h 1 rfl a (rfl) (by omega) (by decide) (x := K a) (rfl) dX8_pushes_35 ?_
    refine lv_iconst (v := 3) hx hb dX8_pushes_36 (by decide) ?_
    refine lv_icmp_ne (tgt := 51) hx hb dX8_pushes_37 (by decide) (fun c_37 => ?_) (fun c_37 => ?_)
    · skip
      refine lv_iload_n hx hb dX8_pushes_51 rfl (lv_at hl 2 rfl) ?_
      refine lv_if_ne (tgt := 72) hx hb dX8_pushes_52 (by decide) (fun c_52 => ?_) (fun c_52 => ?_)
      · skip
        refine lv_iload_n hx hb dX8_pushes_72 rfl (lv_at hl 2 rfl) ?_
        refine lv_iconst (v := 1) hx hb dX8_pushes_73 (by decide) ?_
        refine lv_icmp_ne (tgt := 92) hx hb dX8_pushes_74 (by decide) (fun c_74 => ?_) (fun c_74 => ?_)
        · skip
          refine lv_iload_n hx hb dX8_pushes_92 rfl (lv_at hl 2 rfl) ?_
          refine lv_iconst (v := 4) hx hb dX8_pushes_93 (by decide) ?_
          refine lv_icmp_ne (tgt := 108) hx hb dX8_pushes_94 (by decide) (fun c_94 => ?_) (fun c_94 => ?_)
          · skip
            refine lv_iconst (v := 0) hx hb dX8_pushes_108 (by decide) ?_
            exact hret (r := 0) () dX8_pushes_109 h (rfl) ((show _ = bI (hps2 K w b a) by simp [hps2, bI, c_25, c_37, c_52, c_74, c_94]).trans (congrArg bI (hps2_eq hK)))
          · skip
            refine lv_iload hx hb dX8_pushes_97 (lv_at hl 1 rfl) ?_
            refine lv_iload hx hb dX8_pushes_99 (lv_at hl 0 rfl) ?_
            refine lv_icmp_lt (tgt := 108) hx hb dX8_pushes_101 (by decide) (fun c_101 => ?_) (fun c_101 => ?_)
            · skip
              refine lv_iconst (v := 0) hx hb dX8_pushes_108 (by decide) ?_
              exact hret (r := 0) () dX8_pushes_109 h (rfl) ((show _ = bI (hps2 K w b a) by simp [hps2, bI, c_25, c_37, c_52, c_74, c_94, c_101]).trans (congrArg bI (hps2_eq hK)))
            · skip
              refine lv_iconst (v := 1) hx hb dX8_pushes_104 (by decide) ?_
              refine lv_goto (tgt := 109) hx hb dX8_pushes_105 (by decide) ?_
              exact hret (r := 1) () dX8_pushes_109 h (rfl) ((show _ = bI (hps2 K w b a) by simp [hps2, bI, c_25, c_37, c_52, c_74, c_94, c_101]).trans (congrArg bI (hps2_eq hK)))
        · skip
          refine lv_iload hx hb dX8_pushes_77 (lv_at hl 1 rfl) ?_
          refine lv_iload hx hb dX8_pushes_79 (lv_at hl 0 rfl) ?_
          refine lv_icmp_le (tgt := 88) hx hb dX8_pushes_81 (by decide) (fun c_81 => ?_) (fun c_81 => ?_)
          · skip
            refine lv_iconst (v := 0) hx hb dX8_pushes_88 (by decide) ?_
            refine lv_goto (tgt := 109) hx hb dX8_pushes_89 (by decide) ?_
            exact hret (r := 0) () dX8_pushes_109 h (rfl) ((show _ = bI (hps2 K w b a) by simp [hps2, bI, c_25, c_37, c_52, c_74, c_81]).trans (congrArg bI (hps2_eq hK)))
          · skip
            refine lv_iconst (v := 1) hx hb dX8_pushes_84 (by decide) ?_
            refine lv_goto (tgt := 109) hx hb dX8_pushes_85 (by decide) ?_
            exact hret (r := 1) () dX8_pushes_109 h (rfl) ((show _ = bI (hps2 K w b a) by simp [hps2, bI, c_25, c_37, c_52, c_74, c_81]).trans (congrArg bI (hps2_eq hK)))
      · skip
        refine lv_iload hx hb dX8_pushes_55 (lv_at hl 1 rfl) ?_
        refine lv_iconst (v := 2) hx hb dX8_pushes_57 (by decide) ?_
        refine lv_iload hx hb dX8_pushes_58 (lv_at hl 0 rfl) ?_
        refine lv_imul hx hb dX8_pushes_60 ?_
        refine lv_icmp_le (tgt := 68) hx hb dX8_pushes_61 (by decide) (fun c_61 => ?_) (fun c_61 => ?_)
        · skip
          refine lv_iconst (v := 0) hx hb dX8_pushes_68 (by decide) ?_
          refine lv_goto (tgt := 109) hx hb dX8_pushes_69 (by decide) ?_
          exact hret (r := 0) () dX8_pushes_109 h (rfl) ((show _ = bI (hps2 K w b a) by simp [hps2, bI, c_25, c_37, c_52, c_61]).trans (congrArg bI (hps2_eq hK)))
        · skip
          refine lv_iconst (v := 1) hx hb dX8_pushes_64 (by decide) ?_
          refine lv_goto (tgt := 109) hx hb dX8_pushes_65 (by decide) ?_
          exact hret (r := 1) () dX8_pushes_109 h (rfl) ((show _ = bI (hps2 K w b a) by simp [hps2, bI, c_25, c_37, c_52, c_61]).trans (congrArg bI (hps2_eq hK)))
    · skip
      refine lv_iload hx hb dX8_pushes_40 (lv_at hl 1 rfl) ?_
      refine lv_if_le (tgt := 49) hx hb dX8_pushes_42 (by decide) (fun c_42 => ?_) (fun c_42 => ?_)
      · skip
        refine lv_iconst (v := 0) hx hb dX8_pushes_49 (by decide) ?_
        exact hret (r := 0) () dX8_pushes_50 h (rfl) ((show _ = bI (hps2 K w b a) by simp [hps2, bI, c_25, c_37, c_42]).trans (congrArg bI (hps2_eq hK)))
      · skip
        refine lv_iconst (v := 1) hx hb dX8_pushes_45 (by decide) ?_
        refine lv_goto (tgt := 50) hx hb dX8_pushes_46 (by decide) ?_
        exact hret (r := 1) () dX8_pushes_50 h (rfl) ((show _ = bI (hps2 K w b a) by simp [hps2, bI, c_25, c_37, c_42]).trans (congrArg bI (hps2_eq hK)))
  · skip
    refine lv_iconst (v := 0) hx hb dX8_pushes_28 (by decide) ?_
    exact hret (r := 0) () dX8_pushes_29 h (rfl) ((show _ = bI (hps2 K w b a) by simp [hps2, bI, c_25]).trans (congrArg bI (hps2_eq hK)))

set_option maxHeartbeats 4000000 in
set_option maxRecDepth 100000 in
theorem c_X8_goBehind (l : Launch) (D : va_G) (cI cZ : ClassId) (kS vS : Nat) (p0 : Nat) (p1 : Nat) (p2 : Nat) (p3 : Nat) (p4 : Nat) (p5 : Nat) (p6 : Nat) (p7 : Nat) (p8 : Nat) (p9 : Nat) (p10 : Nat) (p11 : Nat) (p12 : Nat) (p13 : Nat) (p14 : Nat) (p15 : Nat) (p16 : Nat) (p17 : Nat) (n : Nat) (pgm : Int32) (rdm : Int32) (rdb : Int32) (stt : Int32) (bar : Int32) (hrs : Int32) (crd : Int32) (tof : Int32) (tmu : Int32) (bdn : Int32) (snm : Int32) (sdn : Int32) (kcs : Int32) (khr : Int32) (ksn : Int32) (hlg : Int64) (ρ : Nat → Nat) (q : Nat) (hn2 : 2 ≤ n) (hn5 : n ≤ 5) (hpm : PM n ρ) (hq : q < n) : CV l yX8_goBehind cX8_goBehind 4 D cI cZ kS vS 0 0 0 0 [.ref p0, .int (nI (ρ q))] [(p0, .inr (8, [.ref p1, .int pgm, .ref p2, .int rdm, .int rdb, .int stt, .int (nI n), .int bar, .int hrs, .int crd, .ref p3, .ref p4, .ref p5, .ref p6, .ref p7, .int tof, .int tmu, .ref p8, .ref p9, .int bdn, .ref p10, .int snm, .ref p11, .ref p12, .ref p13, .int sdn, .int kcs, .int khr, .int ksn, .ref p14, .ref p15, .ref p16, .ref p17, .long hlg])), (p6, .inl (cI, 5, .inl (ro ρ)))] (fun (_ : Unit) => True) (fun (_ : Unit) => [(p0, .inr (8, [.ref p1, .int pgm, .ref p2, .int rdm, .int rdb, .int stt, .int (nI n), .int bar, .int hrs, .int crd, .ref p3, .ref p4, .ref p5, .ref p6, .ref p7, .int tof, .int tmu, .ref p8, .ref p9, .int bdn, .ref p10, .int snm, .ref p11, .ref p12, .ref p13, .int sdn, .int kcs, .int khr, .int ksn, .ref p14, .ref p15, .ref p16, .ref p17, .long hlg])), (p6, .inl (cI, 5, .inl (ro (hsb n q ρ))))]) := by
  refine CV_intro (by decide) (Nat.le_of_ble_eq_true rfl) ?_
  intro p e s m args below meth c A Q ls C hini h hret hl
  have C : CX p s m args c cX8_goBehind 4 RX8 D cI cZ kS vS A := C
  have hx := C.1.1
  have hb := C.1.2.1
  have hl : lv_has ls 4 [(0, .ref p0), (1, .int (nI (ρ q)))] := hl
  have r0 := hpm.1 q hq
  refine lv_iconst (v := 0) hx hb dX8_goBehind_0 (by decide) ?_
  refine lv_istore_n (lv' := [(2, .int 0), (0, .ref p0), (1, .int (nI (ρ q)))]) hx hb dX8_goBehind_1 rfl hl (by decide) rfl (fun ls hl => ?_)
  refine lv_iconst (v := 0) hx hb dX8_goBehind_2 (by decide) ?_
  refine lv_istore_n (lv' := [(3, .int 0), (2, .int 0), (0, .ref p0), (1, .int (nI (ρ q)))]) hx hb dX8_goBehind_3 rfl hl (by decide) rfl (fun ls hl => ?_)
  have L4 : ∀ (fu : Nat) (i : Nat), (n - i) < fu → (hi : i ≤ n) → ∀ (H : Heap) (locs : List Loc) (ls : Array Slot), HS D A s H locs [(p0, .inr (8, [.ref p1, .int pgm, .ref p2, .int rdm, .int rdb, .int stt, .int (nI n), .int bar, .int hrs, .int crd, .ref p3, .ref p4, .ref p5, .ref p6, .ref p7, .int tof, .int tmu, .ref p8, .ref p9, .int bdn, .ref p10, .int snm, .ref p11, .ref p12, .ref p13, .int sdn, .int kcs, .int khr, .int ksn, .ref p14, .ref p15, .ref p16, .ref p17, .long hlg])), (p6, .inl (cI, 5, .inl (ro (gbk q i ρ))))] → lv_has ls 4 [(0, .ref p0), (1, .int (nI (ρ q))), (2, .int (nI (gbn q i))), (3, .int (nI i))] → W p l e (rmO 0 0 0 0) s m args below meth c H locs 0 0 Q (F0 m 4 ls []) := by
    intro fu
    induction fu with
    | zero => intro i hfu; exact absurd hfu (Nat.not_lt_zero _)
    | succ fu ih4 =>
      intro i hfu hi H locs ls h hl
      refine lv_iload_n hx hb dX8_goBehind_4 rfl (lv_at hl 3 rfl) ?_
      refine lv_aload_n hx hb dX8_goBehind_5 rfl (lv_at hl 0 rfl) ?_
      refine r_get C h fk8 0 6 rfl (by decide) mf_RX8_99 rfl dX8_goBehind_6 ?_
      refine lv_icmp_ge (tgt := 43) hx hb dX8_goBehind_9 (by decide) (fun c_9 => ?_) (fun c_9 => ?_)
      · skip
        have c_9 := (jle (a := n) (b := i) (by omega) (by omega)).mp c_9
        obtain rfl : n = i := by omega
        refine lv_aload_n hx hb dX8_goBehind_43 rfl (lv_at hl 0 rfl) ?_
        refine r_get C h fk8 0 13 rfl (by decide) mf_RX8_25 rfl dX8_goBehind_44 ?_
        refine lv_aload_n hx hb dX8_goBehind_47 rfl (lv_at hl 0 rfl) ?_
        refine r_get C h fk8 0 6 rfl (by decide) mf_RX8_99 rfl dX8_goBehind_48 ?_
        refine lv_iconst (v := 1) hx hb dX8_goBehind_51 (by decide) ?_
        refine lv_isub hx hb dX8_goBehind_52 ?_
        refine r_top (y := nI (n - 1)) (pk_sub (a := n) (b := 1) (by omega)) ?_
        refine lv_iload_n hx hb dX8_goBehind_53 rfl (lv_at hl 1 rfl) ?_
        refine r_st C h 1 rfl (n - 1) (rfl) (by omega) (by decide) (g := ro (un (gbk q n ρ) (n - 1) (ρ q))) (fun j _ => ro_un j) (ws' := [(p0, .inr (8, [.ref p1, .int pgm, .ref p2, .int rdm, .int rdb, .int stt, .int (nI n), .int bar, .int hrs, .int crd, .ref p3, .ref p4, .ref p5, .ref p6, .ref p7, .int tof, .int tmu, .ref p8, .ref p9, .int bdn, .ref p10, .int snm, .ref p11, .ref p12, .ref p13, .int sdn, .int kcs, .int khr, .int ksn, .ref p14, .ref p15, .ref p16, .ref p17, .long hlg])), (p6, .inl (cI, 5, .inl (ro (un (gbk q n ρ) (n - 1) (ρ q)))))]) rfl dX8_goBehind_54 (fun H locs h => ?_)
        have h := h.arr 1 (g := ro (hsb n q ρ)) rfl (fun j _ => by rw [gbk_e hq]; exact congrArg nI (hsbi_e hq j)) rfl
        exact hret () dX8_goBehind_55 h (trivial)
      · skip
        have c_9 : ¬ n ≤ i := fun z => c_9 ((jle (a := n) (b := i) (by omega) (by omega)).mpr z)
        have hlt : i < n := by omega
        have r1 := hpm.1 i hlt
        have r2 := gbn_le q i
        refine lv_aload_n hx hb dX8_goBehind_12 rfl (lv_at hl 0 rfl) ?_
        refine r_get C h fk8 0 13 rfl (by decide) mf_RX8_25 rfl dX8_goBehind_13 ?_
        refine lv_iload_n hx hb dX8_goBehind_16 rfl (lv_at hl 3 rfl) ?_
        refine r_ld C h 1 rfl i (rfl) (by omega) (by decide) (x := nI ((gbk q i ρ) i)) (rfl) dX8_goBehind_17 ?_
        refine r_top (y := nI (ρ i)) (congrArg nI (gbk_at q i ρ)) ?_
        refine lv_iload_n hx hb dX8_goBehind_18 rfl (lv_at hl 1 rfl) ?_
        refine lv_icmp_eq (tgt := 37) hx hb dX8_goBehind_19 (by decide) (fun c_19 => ?_) (fun c_19 => ?_)
        · skip
          have c_19 := (jeq (a := (ρ i)) (b := (ρ q)) (by omega) (by omega)).mp c_19
          have ei := hpm.2.1 _ _ hlt hq c_19
          have ek : gbk q i ρ = gbk q (i + 1) ρ := by rw [ei]; exact (gbk_eq q ρ).symm
          have hl : lv_has ls 4 [(0, .ref p0), (1, .int (nI (ρ q))), (2, .int (nI (gbn q (i + 1)))), (3, .int (nI i))] := by rw [show nI (gbn q (i + 1)) = nI (gbn q i) from by rw [ei]; exact congrArg nI (gbn_eq q)]; exact hl
          refine lv_iinc (v := nI (i + 1)) (lv' := [(3, .int (nI (i + 1))), (0, .ref p0), (1, .int (nI (ρ q))), (2, .int (nI (gbn q (i + 1))))]) hx hb dX8_goBehind_37 hl (k := 3) rfl (nI_1 i) (by decide) rfl (fun ls hl => ?_)
          refine lv_goto (tgt := 4) hx hb dX8_goBehind_40 (by decide) ?_
          have h := h.arr 1 (g := ro (gbk q (i + 1) ρ)) rfl (fun j _ => by rw [ek]) rfl
          exact ih4  (i + 1) (by omega) (by first | assumption | omega) _ _ _ h (lv_sub hl [1, 2, 3, 0] rfl)
        · skip
          have c_19 : ¬ (ρ i) = (ρ q) := fun z => c_19 ((jeq (a := (ρ i)) (b := (ρ q)) (by omega) (by omega)).mpr z)
          have ek : un (gbk q i ρ) (gbn q i) (ρ i) = gbk q (i + 1) ρ := gbk_ne (fun z => c_19 (by rw [z]))
          refine lv_aload_n hx hb dX8_goBehind_22 rfl (lv_at hl 0 rfl) ?_
          refine r_get C h fk8 0 13 rfl (by decide) mf_RX8_25 rfl dX8_goBehind_23 ?_
          refine lv_iload_n hx hb dX8_goBehind_26 rfl (lv_at hl 2 rfl) ?_
          refine lv_aload_n hx hb dX8_goBehind_27 rfl (lv_at hl 0 rfl) ?_
          refine r_get C h fk8 0 13 rfl (by decide) mf_RX8_25 rfl dX8_goBehind_28 ?_
          refine lv_iload_n hx hb dX8_goBehind_31 rfl (lv_at hl 3 rfl) ?_
          refine r_ld C h 1 rfl i (rfl) (by omega) (by decide) (x := nI ((gbk q i ρ) i)) (rfl) dX8_goBehind_32 ?_
          refine r_top (y := nI (ρ i)) (congrArg nI (gbk_at q i ρ)) ?_
          refine r_st C h 1 rfl (gbn q i) (rfl) (by omega) (by decide) (g := ro (un (gbk q i ρ) (gbn q i) (ρ i))) (fun j _ => ro_un j) (ws' := [(p0, .inr (8, [.ref p1, .int pgm, .ref p2, .int rdm, .int rdb, .int stt, .int (nI n), .int bar, .int hrs, .int crd, .ref p3, .ref p4, .ref p5, .ref p6, .ref p7, .int tof, .int tmu, .ref p8, .ref p9, .int bdn, .ref p10, .int snm, .ref p11, .ref p12, .ref p13, .int sdn, .int kcs, .int khr, .int ksn, .ref p14, .ref p15, .ref p16, .ref p17, .long hlg])), (p6, .inl (cI, 5, .inl (ro (un (gbk q i ρ) (gbn q i) (ρ i)))))]) rfl dX8_goBehind_33 (fun H locs h => ?_)
          refine lv_iinc (v := nI (gbn q (i + 1))) (lv' := [(2, .int (nI (gbn q (i + 1)))), (0, .ref p0), (1, .int (nI (ρ q))), (3, .int (nI i))]) hx hb dX8_goBehind_34 hl (k := 2) rfl ((nI_1 (gbn q i)).trans (congrArg nI (gbn_ne (fun z => c_19 (by rw [z]))).symm)) (by decide) rfl (fun ls hl => ?_)
          refine lv_iinc (v := nI (i + 1)) (lv' := [(3, .int (nI (i + 1))), (2, .int (nI (gbn q (i + 1)))), (0, .ref p0), (1, .int (nI (ρ q)))]) hx hb dX8_goBehind_37 hl (k := 3) rfl (nI_1 i) (by decide) rfl (fun ls hl => ?_)
          refine lv_goto (tgt := 4) hx hb dX8_goBehind_40 (by decide) ?_
          have h := h.arr 1 (g := ro (gbk q (i + 1) ρ)) rfl (fun j _ => by rw [ek]) rfl
          exact ih4  (i + 1) (by omega) (by first | assumption | omega) _ _ _ h (lv_sub hl [2, 3, 1, 0] rfl)
  have hl : lv_has ls 4 [(3, .int 0), (2, .int (nI (gbn q 0))), (0, .ref p0), (1, .int (nI (ρ q)))] := by rw [gbn_0]; exact hl
  have h := h.arr 1 (g := ro (gbk q 0 ρ)) rfl (fun j _ => by rw [gbk_0]) rfl
  exact L4 ((n - 0) + 1) 0 (by omega) (by first | assumption | omega) _ _ _ h (lv_sub hl [2, 3, 1, 0] rfl)

set_option maxHeartbeats 4000000 in
set_option maxRecDepth 100000 in
theorem c_X8_goesBy (l : Launch) (D : va_G) (cI cZ : ClassId) (kS vS : Nat) (p0 : Nat) (p1 : Nat) (p2 : Nat) (p3 : Nat) (p4 : Nat) (p5 : Nat) (p6 : Nat) (p7 : Nat) (p8 : Nat) (p9 : Nat) (p10 : Nat) (p11 : Nat) (p12 : Nat) (p13 : Nat) (p14 : Nat) (p15 : Nat) (p16 : Nat) (p17 : Nat) (n : Nat) (pgm : Int32) (rdm : Int32) (rdb : Int32) (stt : Int32) (bar : Int32) (hrs : Int32) (crd : Int32) (tof : Int32) (tmu : Int32) (bdn : Int32) (snm : Int32) (sdn : Int32) (kcs : Int32) (khr : Int32) (ksn : Int32) (hlg : Int64) (w : Nat → Int32) (ρ : Nat → Nat) (K : Nat → Int32) (F : Nat → Int32) (hn2 : 2 ≤ n) (hn5 : n ≤ 5) (hpm : PM n ρ) (hK : ∀ j, j < n → K j = 0 ∨ K j = 1 ∨ K j = 2 ∨ K j = 3 ∨ K j = 4) : CV l yX8_goesBy cX8_goesBy 4 D cI cZ kS vS 1 25 0 0 [.ref p0] [(p0, .inr (8, [.ref p1, .int pgm, .ref p2, .int rdm, .int rdb, .int stt, .int (nI n), .int bar, .int hrs, .int crd, .ref p3, .ref p4, .ref p5, .ref p6, .ref p7, .int tof, .int tmu, .ref p8, .ref p9, .int bdn, .ref p10, .int snm, .ref p11, .ref p12, .ref p13, .int sdn, .int kcs, .int khr, .int ksn, .ref p14, .ref p15, .ref p16, .ref p17, .long hlg])), (p3, .inl (cI, 5, .inl K)), (p4, .inl (cI, 5, .inl F)), (p5, .inl (cI, 5, .inl w)), (p6, .inl (cI, 5, .inl (ro ρ)))] (fun (_ : Unit) => True) (fun (_ : Unit) => [(p0, .inr (8, [.ref p1, .int pgm, .ref p2, .int rdm, .int rdb, .int stt, .int (nI n), .int bar, .int hrs, .int crd, .ref p3, .ref p4, .ref p5, .ref p6, .ref p7, .int (hoo n K F bar w ρ), .int (hmm n K F bar w ρ), .ref p8, .ref p9, .int bdn, .ref p10, .int snm, .ref p11, .ref p12, .ref p13, .int sdn, .int kcs, .int khr, .int ksn, .ref p14, .ref p15, .ref p16, .ref p17, .long hlg])), (p3, .inl (cI, 5, .inl K)), (p4, .inl (cI, 5, .inl F)), (p5, .inl (cI, 5, .inl (hww n K F bar w ρ))), (p6, .inl (cI, 5, .inl (ro (hrr n K F bar w ρ))))]) := by
  refine CV_intro (by decide) (Nat.le_of_ble_eq_true rfl) ?_
  intro p e s m args below meth c A Q ls C hini h hret hl
  have C : CX p s m args c cX8_goesBy 4 RX8 D cI cZ kS vS A := C
  have hx := C.1.1
  have hb := C.1.2.1
  have hl : lv_has ls 4 [(0, .ref p0)] := hl
  refine lv_iconst (v := 0) hx hb dX8_goesBy_0 (by decide) ?_
  refine lv_istore_n (lv' := [(1, .int 0), (0, .ref p0)]) hx hb dX8_goesBy_1 rfl hl (by decide) rfl (fun ls hl => ?_)
  have L2 : ∀ (fu : Nat) (i : Nat), (n - i) < fu → (hi : i ≤ n) → ∀ (H : Heap) (locs : List Loc) (ls : Array Slot), HS D A s H locs [(p0, .inr (8, [.ref p1, .int pgm, .ref p2, .int rdm, .int rdb, .int stt, .int (nI n), .int bar, .int hrs, .int crd, .ref p3, .ref p4, .ref p5, .ref p6, .ref p7, .int tof, .int tmu, .ref p8, .ref p9, .int bdn, .ref p10, .int snm, .ref p11, .ref p12, .ref p13, .int sdn, .int kcs, .int khr, .int ksn, .ref p14, .ref p15, .ref p16, .ref p17, .long hlg])), (p3, .inl (cI, 5, .inl K)), (p4, .inl (cI, 5, .inl F)), (p5, .inl (cI, 5, .inl (hgr i F w))), (p6, .inl (cI, 5, .inl (ro ρ)))] → lv_has ls 4 [(0, .ref p0), (1, .int (nI i))] → W p l e (rmO 1 25 0 0) s m args below meth c H locs 0 0 Q (F0 m 2 ls []) := by
    intro fu
    induction fu with
    | zero => intro i hfu; exact absurd hfu (Nat.not_lt_zero _)
    | succ fu ih2 =>
      intro i hfu hi H locs ls h hl
      refine lv_iload_n hx hb dX8_goesBy_2 rfl (lv_at hl 1 rfl) ?_
      refine lv_aload_n hx hb dX8_goesBy_3 rfl (lv_at hl 0 rfl) ?_
      refine r_get C h fk8 0 6 rfl (by decide) mf_RX8_99 rfl dX8_goesBy_4 ?_
      refine lv_icmp_ge (tgt := 58) hx hb dX8_goesBy_7 (by decide) (fun c_7 => ?_) (fun c_7 => ?_)
      · skip
        have c_7 := (jle (a := n) (b := i) (by omega) (by omega)).mp c_7
        obtain rfl : n = i := by omega
        refine lv_iconst (v := 1) hx hb dX8_goesBy_58 (by decide) ?_
        refine lv_istore_n (lv' := [(1, .int 1), (0, .ref p0)]) hx hb dX8_goesBy_59 rfl hl (by decide) rfl (fun ls hl => ?_)
        have L60 : ∀ (fu : Nat) (i : Nat), (n - i) < fu → (hi : i + 1 ≤ n) → ∀ (H : Heap) (locs : List Loc) (ls : Array Slot), HS D A s H locs [(p0, .inr (8, [.ref p1, .int pgm, .ref p2, .int rdm, .int rdb, .int stt, .int (nI n), .int bar, .int hrs, .int crd, .ref p3, .ref p4, .ref p5, .ref p6, .ref p7, .int tof, .int tmu, .ref p8, .ref p9, .int bdn, .ref p10, .int snm, .ref p11, .ref p12, .ref p13, .int sdn, .int kcs, .int khr, .int ksn, .ref p14, .ref p15, .ref p16, .ref p17, .long hlg])), (p3, .inl (cI, 5, .inl K)), (p4, .inl (cI, 5, .inl F)), (p5, .inl (cI, 5, .inl (hgr n F w))), (p6, .inl (cI, 5, .inl (ro (hpp K (hgr n F w) ρ i))))] → lv_has ls 4 [(0, .ref p0), (1, .int (nI (i + 1)))] → W p l e (rmO 1 25 0 0) s m args below meth c H locs 0 0 Q (F0 m 60 ls []) := by
          intro fu
          induction fu with
          | zero => intro i hfu; exact absurd hfu (Nat.not_lt_zero _)
          | succ fu ih60 =>
            intro i hfu hi H locs ls h hl
            refine lv_iload_n hx hb dX8_goesBy_60 rfl (lv_at hl 1 rfl) ?_
            refine lv_aload_n hx hb dX8_goesBy_61 rfl (lv_at hl 0 rfl) ?_
            refine r_get C h fk8 0 6 rfl (by decide) mf_RX8_99 rfl dX8_goesBy_62 ?_
            refine lv_icmp_ge (tgt := 115) hx hb dX8_goesBy_65 (by decide) (fun c_65 => ?_) (fun c_65 => ?_)
            · skip
              have c_65 := (jle (a := n) (b := (i + 1)) (by omega) (by omega)).mp c_65
              obtain rfl : n - 1 = i := by omega
              have hpm1 := hpm.hpp (K := K) (w := hgr n F w) (n - 1) (by omega)
              have r0 := hpm1.1 0 (by omega)
              refine lv_aload_n hx hb dX8_goesBy_115 rfl (lv_at hl 0 rfl) ?_
              refine r_get C h fk8 0 13 rfl (by decide) mf_RX8_25 rfl dX8_goesBy_116 ?_
              refine lv_iconst (v := 0) hx hb dX8_goesBy_119 (by decide) ?_
              refine r_ld C h 4 rfl 0 (rfl) (by omega) (by decide) (x := nI ((hpp K (hgr n F w) ρ (n - 1)) 0)) (rfl) dX8_goesBy_120 ?_
              refine lv_istore_n (lv' := [(1, .int (nI ((hpp K (hgr n F w) ρ (n - 1)) 0))), (0, .ref p0)]) hx hb dX8_goesBy_121 rfl hl (by decide) rfl (fun ls hl => ?_)
              refine lv_aload_n hx hb dX8_goesBy_122 rfl (lv_at hl 1 rfl) ?_
              refine lv_aload_n hx hb dX8_goesBy_123 rfl (lv_at hl 1 rfl) ?_
              refine r_get C h fk8 0 12 rfl (by decide) mf_RX8_22 rfl dX8_goesBy_124 ?_
              refine lv_iload_n hx hb dX8_goesBy_127 rfl (lv_at hl 0 rfl) ?_
              refine r_ld C h 3 rfl ((hpp K (hgr n F w) ρ (n - 1)) 0) (rfl) (by omega) (by decide) (x := (hgr n F w) ((hpp K (hgr n F w) ρ (n - 1)) 0)) (rfl) dX8_goesBy_128 ?_
              refine lv_aload_n hx hb dX8_goesBy_129 rfl (lv_at hl 1 rfl) ?_
              refine r_get C h fk8 0 7 rfl (by decide) mf_RX8_102 rfl dX8_goesBy_130 ?_
              refine lv_icmp_ge (tgt := 145) hx hb dX8_goesBy_133 (by decide) (fun c_133 => ?_) (fun c_133 => ?_)
              · skip
                have em : hmm n K F bar w ρ = bar := hmu_f c_133
                refine lv_aload_n hx hb dX8_goesBy_145 rfl (lv_at hl 1 rfl) ?_
                refine r_get C h fk8 0 7 rfl (by decide) mf_RX8_102 rfl dX8_goesBy_146 ?_
                refine r_top (y := hmm n K F bar w ρ) (em.symm) ?_
                refine r_put C h fk8 0 16 rfl (by decide) mf_RX8_118 rfl (rfl) rfl (Nat.le_of_ble_eq_true rfl) (ws' := [(p0, .inr (8, [.ref p1, .int pgm, .ref p2, .int rdm, .int rdb, .int stt, .int (nI n), .int bar, .int hrs, .int crd, .ref p3, .ref p4, .ref p5, .ref p6, .ref p7, .int tof, .int (hmm n K F bar w ρ), .ref p8, .ref p9, .int bdn, .ref p10, .int snm, .ref p11, .ref p12, .ref p13, .int sdn, .int kcs, .int khr, .int ksn, .ref p14, .ref p15, .ref p16, .ref p17, .long hlg])), (p3, .inl (cI, 5, .inl K)), (p4, .inl (cI, 5, .inl F)), (p5, .inl (cI, 5, .inl (hgr n F w))), (p6, .inl (cI, 5, .inl (ro (hpp K (hgr n F w) ρ (n - 1)))))]) rfl dX8_goesBy_149 (fun H locs h => ?_)
                refine lv_aload_n hx hb dX8_goesBy_152 rfl (lv_at hl 1 rfl) ?_
                refine lv_aload_n hx hb dX8_goesBy_153 rfl (lv_at hl 1 rfl) ?_
                refine r_get C h fk8 0 16 rfl (by decide) mf_RX8_118 rfl dX8_goesBy_154 ?_
                refine lv_if_le (tgt := 164) hx hb dX8_goesBy_157 (by decide) (fun c_157 => ?_) (fun c_157 => ?_)
                · skip
                  have et : hoo n K F bar w ρ = -1 := if_pos c_157
                  refine lv_iconst (v := (-1)) hx hb dX8_goesBy_164 (by decide) ?_
                  refine r_top (y := hoo n K F bar w ρ) (et.symm) ?_
                  refine r_put C h fk8 0 15 rfl (by decide) mf_RX8_121 rfl (rfl) rfl (Nat.le_of_ble_eq_true rfl) (ws' := [(p0, .inr (8, [.ref p1, .int pgm, .ref p2, .int rdm, .int rdb, .int stt, .int (nI n), .int bar, .int hrs, .int crd, .ref p3, .ref p4, .ref p5, .ref p6, .ref p7, .int (hoo n K F bar w ρ), .int (hmm n K F bar w ρ), .ref p8, .ref p9, .int bdn, .ref p10, .int snm, .ref p11, .ref p12, .ref p13, .int sdn, .int kcs, .int khr, .int ksn, .ref p14, .ref p15, .ref p16, .ref p17, .long hlg])), (p3, .inl (cI, 5, .inl K)), (p4, .inl (cI, 5, .inl F)), (p5, .inl (cI, 5, .inl (hgr n F w))), (p6, .inl (cI, 5, .inl (ro (hpp K (hgr n F w) ρ (n - 1)))))]) rfl dX8_goesBy_165 (fun H locs h => ?_)
                  refine lv_aload_n hx hb dX8_goesBy_168 rfl (lv_at hl 1 rfl) ?_
                  refine r_get C h fk8 0 12 rfl (by decide) mf_RX8_22 rfl dX8_goesBy_169 ?_
                  refine lv_iload_n hx hb dX8_goesBy_172 rfl (lv_at hl 0 rfl) ?_
                  refine lv_dup2_11 hx hb dX8_goesBy_173 rfl rfl ?_
                  refine r_ld C h 3 rfl ((hpp K (hgr n F w) ρ (n - 1)) 0) (rfl) (by omega) (by decide) (x := (hgr n F w) ((hpp K (hgr n F w) ρ (n - 1)) 0)) (rfl) dX8_goesBy_174 ?_
                  refine lv_aload_n hx hb dX8_goesBy_175 rfl (lv_at hl 1 rfl) ?_
                  refine r_get C h fk8 0 16 rfl (by decide) mf_RX8_118 rfl dX8_goesBy_176 ?_
                  refine lv_isub hx hb dX8_goesBy_179 ?_
                  refine r_st C h 3 rfl ((hpp K (hgr n F w) ρ (n - 1)) 0) (rfl) (by omega) (by decide) (g := upd (hgr n F w) ((hpp K (hgr n F w) ρ (n - 1)) 0) (((hgr n F w) ((hpp K (hgr n F w) ρ (n - 1)) 0)) - (hmm n K F bar w ρ))) (fun _ _ => rfl) (ws' := [(p0, .inr (8, [.ref p1, .int pgm, .ref p2, .int rdm, .int rdb, .int stt, .int (nI n), .int bar, .int hrs, .int crd, .ref p3, .ref p4, .ref p5, .ref p6, .ref p7, .int (hoo n K F bar w ρ), .int (hmm n K F bar w ρ), .ref p8, .ref p9, .int bdn, .ref p10, .int snm, .ref p11, .ref p12, .ref p13, .int sdn, .int kcs, .int khr, .int ksn, .ref p14, .ref p15, .ref p16, .ref p17, .long hlg])), (p3, .inl (cI, 5, .inl K)), (p4, .inl (cI, 5, .inl F)), (p5, .inl (cI, 5, .inl (upd (hgr n F w) ((hpp K (hgr n F w) ρ (n - 1)) 0) (((hgr n F w) ((hpp K (hgr n F w) ρ (n - 1)) 0)) - (hmm n K F bar w ρ))))), (p6, .inl (cI, 5, .inl (ro (hpp K (hgr n F w) ρ (n - 1)))))]) rfl dX8_goesBy_180 (fun H locs h => ?_)
                  refine lv_aload_n hx hb dX8_goesBy_181 rfl (lv_at hl 1 rfl) ?_
                  refine r_get C h fk8 0 12 rfl (by decide) mf_RX8_22 rfl dX8_goesBy_182 ?_
                  refine lv_iload_n hx hb dX8_goesBy_185 rfl (lv_at hl 0 rfl) ?_
                  refine r_ld C h 3 rfl ((hpp K (hgr n F w) ρ (n - 1)) 0) (rfl) (by omega) (by decide) (x := hgr n F w (hfi n K F w ρ) - hmm n K F bar w ρ) (upd_s _ _ _) dX8_goesBy_186 ?_
                  refine lv_if_ne (tgt := 195) hx hb dX8_goesBy_187 (by decide) (fun c_187 => ?_) (fun c_187 => ?_)
                  · skip
                    have e4 : hrr n K F bar w ρ = hpp K (hgr n F w) ρ (n - 1) := if_neg c_187
                    have h := h.arr 3 (g := hww n K F bar w ρ) rfl (fun j hj => rfl) rfl
                    have h := h.arr 4 (g := ro (hrr n K F bar w ρ)) rfl (fun j _ => by rw [e4]) rfl
                    exact hret () dX8_goesBy_195 h (trivial)
                  · skip
                    have e4 : hrr n K F bar w ρ = hsb n 0 (hpp K (hgr n F w) ρ (n - 1)) := if_pos c_187
                    refine lv_aload_n hx hb dX8_goesBy_190 rfl (lv_at hl 1 rfl) ?_
                    refine lv_iload_n hx hb dX8_goesBy_191 rfl (lv_at hl 0 rfl) ?_
                    refine k_Vv (rest := []) (as := [.int (nI ((hpp K (hgr n F w) ρ (n - 1)) 0))]) (wc := [(p0, .inr (8, [.ref p1, .int pgm, .ref p2, .int rdm, .int rdb, .int stt, .int (nI n), .int bar, .int hrs, .int crd, .ref p3, .ref p4, .ref p5, .ref p6, .ref p7, .int (hoo n K F bar w ρ), .int (hmm n K F bar w ρ), .ref p8, .ref p9, .int bdn, .ref p10, .int snm, .ref p11, .ref p12, .ref p13, .int sdn, .int kcs, .int khr, .int ksn, .ref p14, .ref p15, .ref p16, .ref p17, .long hlg])), (p6, .inl (cI, 5, .inl (ro (hpp K (hgr n F w) ρ (n - 1)))))]) (wr := [(p3, .inl (cI, 5, .inl K)), (p4, .inl (cI, 5, .inl F)), (p5, .inl (cI, 5, .inl (upd (hgr n F w) ((hpp K (hgr n F w) ρ (n - 1)) 0) (((hgr n F w) ((hpp K (hgr n F w) ρ (n - 1)) 0)) - (hmm n K F bar w ρ)))))]) (isC := [0, 4]) (isR := [1, 2, 3]) (w2 := fun (_ : Unit) => [(p0, .inr (8, [.ref p1, .int pgm, .ref p2, .int rdm, .int rdb, .int stt, .int (nI n), .int bar, .int hrs, .int crd, .ref p3, .ref p4, .ref p5, .ref p6, .ref p7, .int (hoo n K F bar w ρ), .int (hmm n K F bar w ρ), .ref p8, .ref p9, .int bdn, .ref p10, .int snm, .ref p11, .ref p12, .ref p13, .int sdn, .int kcs, .int khr, .int ksn, .ref p14, .ref p15, .ref p16, .ref p17, .long hlg])), (p3, .inl (cI, 5, .inl K)), (p4, .inl (cI, 5, .inl F)), (p5, .inl (cI, 5, .inl (upd (hgr n F w) ((hpp K (hgr n F w) ρ (n - 1)) 0) (((hgr n F w) ((hpp K (hgr n F w) ρ (n - 1)) 0)) - (hmm n K F bar w ρ))))), (p6, .inl (cI, 5, .inl (ro (hsb n 0 (hpp K (hgr n F w) ρ (n - 1))))))]) C h (c_X8_goBehind l D cI cZ kS vS p0 p1 p2 p3 p4 p5 p6 p7 p8 p9 p10 p11 p12 p13 p14 p15 p16 p17 n pgm rdm rdb stt bar hrs crd (hoo n K F bar w ρ) (hmm n K F bar w ρ) bdn snm sdn kcs khr ksn hlg (hpp K (hgr n F w) ρ (n - 1)) 0 hn2 hn5 hpm1 (by omega)) wv_X8_goBehind rfl ⟨rfl, rfl, rfl, rfl, by decide⟩ fk8 0 rfl ml_RX8_124 [3, 0, 1, 2, 4] rfl (fun _ => rfl) ⟨Nat.le_of_ble_eq_true rfl, Nat.le_of_ble_eq_true rfl⟩ ⟨Nat.le_of_ble_eq_true rfl, Nat.le_of_ble_eq_true rfl⟩ (Nat.le_of_ble_eq_true rfl) hl rfl dX8_goesBy_192 (fun u H locs hq h => ?_)
                    have h : HS D A s H locs [(p0, .inr (8, [.ref p1, .int pgm, .ref p2, .int rdm, .int rdb, .int stt, .int (nI n), .int bar, .int hrs, .int crd, .ref p3, .ref p4, .ref p5, .ref p6, .ref p7, .int (hoo n K F bar w ρ), .int (hmm n K F bar w ρ), .ref p8, .ref p9, .int bdn, .ref p10, .int snm, .ref p11, .ref p12, .ref p13, .int sdn, .int kcs, .int khr, .int ksn, .ref p14, .ref p15, .ref p16, .ref p17, .long hlg])), (p3, .inl (cI, 5, .inl K)), (p4, .inl (cI, 5, .inl F)), (p5, .inl (cI, 5, .inl (upd (hgr n F w) ((hpp K (hgr n F w) ρ (n - 1)) 0) (((hgr n F w) ((hpp K (hgr n F w) ρ (n - 1)) 0)) - (hmm n K F bar w ρ))))), (p6, .inl (cI, 5, .inl (ro (hsb n 0 (hpp K (hgr n F w) ρ (n - 1))))))] := h
                    have hq : True := hq
                    have h := h.arr 3 (g := hww n K F bar w ρ) rfl (fun j hj => rfl) rfl
                    have h := h.arr 4 (g := ro (hrr n K F bar w ρ)) rfl (fun j _ => by rw [e4]) rfl
                    exact hret () dX8_goesBy_195 h (trivial)
                · skip
                  have et : hoo n K F bar w ρ = nI (hpp K (hgr n F w) ρ (n - 1) 0) := if_neg c_157
                  refine lv_iload_n hx hb dX8_goesBy_160 rfl (lv_at hl 0 rfl) ?_
                  refine lv_goto (tgt := 165) hx hb dX8_goesBy_161 (by decide) ?_
                  refine r_top (y := hoo n K F bar w ρ) (et.symm) ?_
                  refine r_put C h fk8 0 15 rfl (by decide) mf_RX8_121 rfl (rfl) rfl (Nat.le_of_ble_eq_true rfl) (ws' := [(p0, .inr (8, [.ref p1, .int pgm, .ref p2, .int rdm, .int rdb, .int stt, .int (nI n), .int bar, .int hrs, .int crd, .ref p3, .ref p4, .ref p5, .ref p6, .ref p7, .int (hoo n K F bar w ρ), .int (hmm n K F bar w ρ), .ref p8, .ref p9, .int bdn, .ref p10, .int snm, .ref p11, .ref p12, .ref p13, .int sdn, .int kcs, .int khr, .int ksn, .ref p14, .ref p15, .ref p16, .ref p17, .long hlg])), (p3, .inl (cI, 5, .inl K)), (p4, .inl (cI, 5, .inl F)), (p5, .inl (cI, 5, .inl (hgr n F w))), (p6, .inl (cI, 5, .inl (ro (hpp K (hgr n F w) ρ (n - 1)))))]) rfl dX8_goesBy_165 (fun H locs h => ?_)
                  refine lv_aload_n hx hb dX8_goesBy_168 rfl (lv_at hl 1 rfl) ?_
                  refine r_get C h fk8 0 12 rfl (by decide) mf_RX8_22 rfl dX8_goesBy_169 ?_
                  refine lv_iload_n hx hb dX8_goesBy_172 rfl (lv_at hl 0 rfl) ?_
                  refine lv_dup2_11 hx hb dX8_goesBy_173 rfl rfl ?_
                  refine r_ld C h 3 rfl ((hpp K (hgr n F w) ρ (n - 1)) 0) (rfl) (by omega) (by decide) (x := (hgr n F w) ((hpp K (hgr n F w) ρ (n - 1)) 0)) (rfl) dX8_goesBy_174 ?_
                  refine lv_aload_n hx hb dX8_goesBy_175 rfl (lv_at hl 1 rfl) ?_
                  refine r_get C h fk8 0 16 rfl (by decide) mf_RX8_118 rfl dX8_goesBy_176 ?_
                  refine lv_isub hx hb dX8_goesBy_179 ?_
                  refine r_st C h 3 rfl ((hpp K (hgr n F w) ρ (n - 1)) 0) (rfl) (by omega) (by decide) (g := upd (hgr n F w) ((hpp K (hgr n F w) ρ (n - 1)) 0) (((hgr n F w) ((hpp K (hgr n F w) ρ (n - 1)) 0)) - (hmm n K F bar w ρ))) (fun _ _ => rfl) (ws' := [(p0, .inr (8, [.ref p1, .int pgm, .ref p2, .int rdm, .int rdb, .int stt, .int (nI n), .int bar, .int hrs, .int crd, .ref p3, .ref p4, .ref p5, .ref p6, .ref p7, .int (hoo n K F bar w ρ), .int (hmm n K F bar w ρ), .ref p8, .ref p9, .int bdn, .ref p10, .int snm, .ref p11, .ref p12, .ref p13, .int sdn, .int kcs, .int khr, .int ksn, .ref p14, .ref p15, .ref p16, .ref p17, .long hlg])), (p3, .inl (cI, 5, .inl K)), (p4, .inl (cI, 5, .inl F)), (p5, .inl (cI, 5, .inl (upd (hgr n F w) ((hpp K (hgr n F w) ρ (n - 1)) 0) (((hgr n F w) ((hpp K (hgr n F w) ρ (n - 1)) 0)) - (hmm n K F bar w ρ))))), (p6, .inl (cI, 5, .inl (ro (hpp K (hgr n F w) ρ (n - 1)))))]) rfl dX8_goesBy_180 (fun H locs h => ?_)
                  refine lv_aload_n hx hb dX8_goesBy_181 rfl (lv_at hl 1 rfl) ?_
                  refine r_get C h fk8 0 12 rfl (by decide) mf_RX8_22 rfl dX8_goesBy_182 ?_
                  refine lv_iload_n hx hb dX8_goesBy_185 rfl (lv_at hl 0 rfl) ?_
                  refine r_ld C h 3 rfl ((hpp K (hgr n F w) ρ (n - 1)) 0) (rfl) (by omega) (by decide) (x := hgr n F w (hfi n K F w ρ) - hmm n K F bar w ρ) (upd_s _ _ _) dX8_goesBy_186 ?_
                  refine lv_if_ne (tgt := 195) hx hb dX8_goesBy_187 (by decide) (fun c_187 => ?_) (fun c_187 => ?_)
                  · skip
                    have e4 : hrr n K F bar w ρ = hpp K (hgr n F w) ρ (n - 1) := if_neg c_187
                    have h := h.arr 3 (g := hww n K F bar w ρ) rfl (fun j hj => rfl) rfl
                    have h := h.arr 4 (g := ro (hrr n K F bar w ρ)) rfl (fun j _ => by rw [e4]) rfl
                    exact hret () dX8_goesBy_195 h (trivial)
                  · skip
                    have e4 : hrr n K F bar w ρ = hsb n 0 (hpp K (hgr n F w) ρ (n - 1)) := if_pos c_187
                    refine lv_aload_n hx hb dX8_goesBy_190 rfl (lv_at hl 1 rfl) ?_
                    refine lv_iload_n hx hb dX8_goesBy_191 rfl (lv_at hl 0 rfl) ?_
                    refine k_Vv (rest := []) (as := [.int (nI ((hpp K (hgr n F w) ρ (n - 1)) 0))]) (wc := [(p0, .inr (8, [.ref p1, .int pgm, .ref p2, .int rdm, .int rdb, .int stt, .int (nI n), .int bar, .int hrs, .int crd, .ref p3, .ref p4, .ref p5, .ref p6, .ref p7, .int (hoo n K F bar w ρ), .int (hmm n K F bar w ρ), .ref p8, .ref p9, .int bdn, .ref p10, .int snm, .ref p11, .ref p12, .ref p13, .int sdn, .int kcs, .int khr, .int ksn, .ref p14, .ref p15, .ref p16, .ref p17, .long hlg])), (p6, .inl (cI, 5, .inl (ro (hpp K (hgr n F w) ρ (n - 1)))))]) (wr := [(p3, .inl (cI, 5, .inl K)), (p4, .inl (cI, 5, .inl F)), (p5, .inl (cI, 5, .inl (upd (hgr n F w) ((hpp K (hgr n F w) ρ (n - 1)) 0) (((hgr n F w) ((hpp K (hgr n F w) ρ (n - 1)) 0)) - (hmm n K F bar w ρ)))))]) (isC := [0, 4]) (isR := [1, 2, 3]) (w2 := fun (_ : Unit) => [(p0, .inr (8, [.ref p1, .int pgm, .ref p2, .int rdm, .int rdb, .int stt, .int (nI n), .int bar, .int hrs, .int crd, .ref p3, .ref p4, .ref p5, .ref p6, .ref p7, .int (hoo n K F bar w ρ), .int (hmm n K F bar w ρ), .ref p8, .ref p9, .int bdn, .ref p10, .int snm, .ref p11, .ref p12, .ref p13, .int sdn, .int kcs, .int khr, .int ksn, .ref p14, .ref p15, .ref p16, .ref p17, .long hlg])), (p3, .inl (cI, 5, .inl K)), (p4, .inl (cI, 5, .inl F)), (p5, .inl (cI, 5, .inl (upd (hgr n F w) ((hpp K (hgr n F w) ρ (n - 1)) 0) (((hgr n F w) ((hpp K (hgr n F w) ρ (n - 1)) 0)) - (hmm n K F bar w ρ))))), (p6, .inl (cI, 5, .inl (ro (hsb n 0 (hpp K (hgr n F w) ρ (n - 1))))))]) C h (c_X8_goBehind l D cI cZ kS vS p0 p1 p2 p3 p4 p5 p6 p7 p8 p9 p10 p11 p12 p13 p14 p15 p16 p17 n pgm rdm rdb stt bar hrs crd (hoo n K F bar w ρ) (hmm n K F bar w ρ) bdn snm sdn kcs khr ksn hlg (hpp K (hgr n F w) ρ (n - 1)) 0 hn2 hn5 hpm1 (by omega)) wv_X8_goBehind rfl ⟨rfl, rfl, rfl, rfl, by decide⟩ fk8 0 rfl ml_RX8_124 [3, 0, 1, 2, 4] rfl (fun _ => rfl) ⟨Nat.le_of_ble_eq_true rfl, Nat.le_of_ble_eq_true rfl⟩ ⟨Nat.le_of_ble_eq_true rfl, Nat.le_of_ble_eq_true rfl⟩ (Nat.le_of_ble_eq_true rfl) hl rfl dX8_goesBy_192 (fun u H locs hq h => ?_)
                    have h : HS D A s H locs [(p0, .inr (8, [.ref p1, .int pgm, .ref p2, .int rdm, .int rdb, .int stt, .int (nI n), .int bar, .int hrs, .int crd, .ref p3, .ref p4, .ref p5, .ref p6, .ref p7, .int (hoo n K F bar w ρ), .int (hmm n K F bar w ρ), .ref p8, .ref p9, .int bdn, .ref p10, .int snm, .ref p11, .ref p12, .ref p13, .int sdn, .int kcs, .int khr, .int ksn, .ref p14, .ref p15, .ref p16, .ref p17, .long hlg])), (p3, .inl (cI, 5, .inl K)), (p4, .inl (cI, 5, .inl F)), (p5, .inl (cI, 5, .inl (upd (hgr n F w) ((hpp K (hgr n F w) ρ (n - 1)) 0) (((hgr n F w) ((hpp K (hgr n F w) ρ (n - 1)) 0)) - (hmm n K F bar w ρ))))), (p6, .inl (cI, 5, .inl (ro (hsb n 0 (hpp K (hgr n F w) ρ (n - 1))))))] := h
                    have hq : True := hq
                    have h := h.arr 3 (g := hww n K F bar w ρ) rfl (fun j hj => rfl) rfl
                    have h := h.arr 4 (g := ro (hrr n K F bar w ρ)) rfl (fun j _ => by rw [e4]) rfl
                    exact hret () dX8_goesBy_195 h (trivial)
              · skip
                have em : hmm n K F bar w ρ = hgr n F w (hfi n K F w ρ) := hmu_t c_133
                refine lv_aload_n hx hb dX8_goesBy_136 rfl (lv_at hl 1 rfl) ?_
                refine r_get C h fk8 0 12 rfl (by decide) mf_RX8_22 rfl dX8_goesBy_137 ?_
                refine lv_iload_n hx hb dX8_goesBy_140 rfl (lv_at hl 0 rfl) ?_
                refine r_ld C h 3 rfl ((hpp K (hgr n F w) ρ (n - 1)) 0) (rfl) (by omega) (by decide) (x := (hgr n F w) ((hpp K (hgr n F w) ρ (n - 1)) 0)) (rfl) dX8_goesBy_141 ?_
                refine lv_goto (tgt := 149) hx hb dX8_goesBy_142 (by decide) ?_
                refine r_top (y := hmm n K F bar w ρ) (em.symm) ?_
                refine r_put C h fk8 0 16 rfl (by decide) mf_RX8_118 rfl (rfl) rfl (Nat.le_of_ble_eq_true rfl) (ws' := [(p0, .inr (8, [.ref p1, .int pgm, .ref p2, .int rdm, .int rdb, .int stt, .int (nI n), .int bar, .int hrs, .int crd, .ref p3, .ref p4, .ref p5, .ref p6, .ref p7, .int tof, .int (hmm n K F bar w ρ), .ref p8, .ref p9, .int bdn, .ref p10, .int snm, .ref p11, .ref p12, .ref p13, .int sdn, .int kcs, .int khr, .int ksn, .ref p14, .ref p15, .ref p16, .ref p17, .long hlg])), (p3, .inl (cI, 5, .inl K)), (p4, .inl (cI, 5, .inl F)), (p5, .inl (cI, 5, .inl (hgr n F w))), (p6, .inl (cI, 5, .inl (ro (hpp K (hgr n F w) ρ (n - 1)))))]) rfl dX8_goesBy_149 (fun H locs h => ?_)
                refine lv_aload_n hx hb dX8_goesBy_152 rfl (lv_at hl 1 rfl) ?_
                refine lv_aload_n hx hb dX8_goesBy_153 rfl (lv_at hl 1 rfl) ?_
                refine r_get C h fk8 0 16 rfl (by decide) mf_RX8_118 rfl dX8_goesBy_154 ?_
                refine lv_if_le (tgt := 164) hx hb dX8_goesBy_157 (by decide) (fun c_157 => ?_) (fun c_157 => ?_)
                · skip
                  have et : hoo n K F bar w ρ = -1 := if_pos c_157
                  refine lv_iconst (v := (-1)) hx hb dX8_goesBy_164 (by decide) ?_
                  refine r_top (y := hoo n K F bar w ρ) (et.symm) ?_
                  refine r_put C h fk8 0 15 rfl (by decide) mf_RX8_121 rfl (rfl) rfl (Nat.le_of_ble_eq_true rfl) (ws' := [(p0, .inr (8, [.ref p1, .int pgm, .ref p2, .int rdm, .int rdb, .int stt, .int (nI n), .int bar, .int hrs, .int crd, .ref p3, .ref p4, .ref p5, .ref p6, .ref p7, .int (hoo n K F bar w ρ), .int (hmm n K F bar w ρ), .ref p8, .ref p9, .int bdn, .ref p10, .int snm, .ref p11, .ref p12, .ref p13, .int sdn, .int kcs, .int khr, .int ksn, .ref p14, .ref p15, .ref p16, .ref p17, .long hlg])), (p3, .inl (cI, 5, .inl K)), (p4, .inl (cI, 5, .inl F)), (p5, .inl (cI, 5, .inl (hgr n F w))), (p6, .inl (cI, 5, .inl (ro (hpp K (hgr n F w) ρ (n - 1)))))]) rfl dX8_goesBy_165 (fun H locs h => ?_)
                  refine lv_aload_n hx hb dX8_goesBy_168 rfl (lv_at hl 1 rfl) ?_
                  refine r_get C h fk8 0 12 rfl (by decide) mf_RX8_22 rfl dX8_goesBy_169 ?_
                  refine lv_iload_n hx hb dX8_goesBy_172 rfl (lv_at hl 0 rfl) ?_
                  refine lv_dup2_11 hx hb dX8_goesBy_173 rfl rfl ?_
                  refine r_ld C h 3 rfl ((hpp K (hgr n F w) ρ (n - 1)) 0) (rfl) (by omega) (by decide) (x := (hgr n F w) ((hpp K (hgr n F w) ρ (n - 1)) 0)) (rfl) dX8_goesBy_174 ?_
                  refine lv_aload_n hx hb dX8_goesBy_175 rfl (lv_at hl 1 rfl) ?_
                  refine r_get C h fk8 0 16 rfl (by decide) mf_RX8_118 rfl dX8_goesBy_176 ?_
                  refine lv_isub hx hb dX8_goesBy_179 ?_
                  refine r_st C h 3 rfl ((hpp K (hgr n F w) ρ (n - 1)) 0) (rfl) (by omega) (by decide) (g := upd (hgr n F w) ((hpp K (hgr n F w) ρ (n - 1)) 0) (((hgr n F w) ((hpp K (hgr n F w) ρ (n - 1)) 0)) - (hmm n K F bar w ρ))) (fun _ _ => rfl) (ws' := [(p0, .inr (8, [.ref p1, .int pgm, .ref p2, .int rdm, .int rdb, .int stt, .int (nI n), .int bar, .int hrs, .int crd, .ref p3, .ref p4, .ref p5, .ref p6, .ref p7, .int (hoo n K F bar w ρ), .int (hmm n K F bar w ρ), .ref p8, .ref p9, .int bdn, .ref p10, .int snm, .ref p11, .ref p12, .ref p13, .int sdn, .int kcs, .int khr, .int ksn, .ref p14, .ref p15, .ref p16, .ref p17, .long hlg])), (p3, .inl (cI, 5, .inl K)), (p4, .inl (cI, 5, .inl F)), (p5, .inl (cI, 5, .inl (upd (hgr n F w) ((hpp K (hgr n F w) ρ (n - 1)) 0) (((hgr n F w) ((hpp K (hgr n F w) ρ (n - 1)) 0)) - (hmm n K F bar w ρ))))), (p6, .inl (cI, 5, .inl (ro (hpp K (hgr n F w) ρ (n - 1)))))]) rfl dX8_goesBy_180 (fun H locs h => ?_)
                  refine lv_aload_n hx hb dX8_goesBy_181 rfl (lv_at hl 1 rfl) ?_
                  refine r_get C h fk8 0 12 rfl (by decide) mf_RX8_22 rfl dX8_goesBy_182 ?_
                  refine lv_iload_n hx hb dX8_goesBy_185 rfl (lv_at hl 0 rfl) ?_
                  refine r_ld C h 3 rfl ((hpp K (hgr n F w) ρ (n - 1)) 0) (rfl) (by omega) (by decide) (x := hgr n F w (hfi n K F w ρ) - hmm n K F bar w ρ) (upd_s _ _ _) dX8_goesBy_186 ?_
                  refine lv_if_ne (tgt := 195) hx hb dX8_goesBy_187 (by decide) (fun c_187 => ?_) (fun c_187 => ?_)
                  · skip
                    have e4 : hrr n K F bar w ρ = hpp K (hgr n F w) ρ (n - 1) := if_neg c_187
                    have h := h.arr 3 (g := hww n K F bar w ρ) rfl (fun j hj => rfl) rfl
                    have h := h.arr 4 (g := ro (hrr n K F bar w ρ)) rfl (fun j _ => by rw [e4]) rfl
                    exact hret () dX8_goesBy_195 h (trivial)
                  · skip
                    have e4 : hrr n K F bar w ρ = hsb n 0 (hpp K (hgr n F w) ρ (n - 1)) := if_pos c_187
                    refine lv_aload_n hx hb dX8_goesBy_190 rfl (lv_at hl 1 rfl) ?_
                    refine lv_iload_n hx hb dX8_goesBy_191 rfl (lv_at hl 0 rfl) ?_
                    refine k_Vv (rest := []) (as := [.int (nI ((hpp K (hgr n F w) ρ (n - 1)) 0))]) (wc := [(p0, .inr (8, [.ref p1, .int pgm, .ref p2, .int rdm, .int rdb, .int stt, .int (nI n), .int bar, .int hrs, .int crd, .ref p3, .ref p4, .ref p5, .ref p6, .ref p7, .int (hoo n K F bar w ρ), .int (hmm n K F bar w ρ), .ref p8, .ref p9, .int bdn, .ref p10, .int snm, .ref p11, .ref p12, .ref p13, .int sdn, .int kcs, .int khr, .int ksn, .ref p14, .ref p15, .ref p16, .ref p17, .long hlg])), (p6, .inl (cI, 5, .inl (ro (hpp K (hgr n F w) ρ (n - 1)))))]) (wr := [(p3, .inl (cI, 5, .inl K)), (p4, .inl (cI, 5, .inl F)), (p5, .inl (cI, 5, .inl (upd (hgr n F w) ((hpp K (hgr n F w) ρ (n - 1)) 0) (((hgr n F w) ((hpp K (hgr n F w) ρ (n - 1)) 0)) - (hmm n K F bar w ρ)))))]) (isC := [0, 4]) (isR := [1, 2, 3]) (w2 := fun (_ : Unit) => [(p0, .inr (8, [.ref p1, .int pgm, .ref p2, .int rdm, .int rdb, .int stt, .int (nI n), .int bar, .int hrs, .int crd, .ref p3, .ref p4, .ref p5, .ref p6, .ref p7, .int (hoo n K F bar w ρ), .int (hmm n K F bar w ρ), .ref p8, .ref p9, .int bdn, .ref p10, .int snm, .ref p11, .ref p12, .ref p13, .int sdn, .int kcs, .int khr, .int ksn, .ref p14, .ref p15, .ref p16, .ref p17, .long hlg])), (p3, .inl (cI, 5, .inl K)), (p4, .inl (cI, 5, .inl F)), (p5, .inl (cI, 5, .inl (upd (hgr n F w) ((hpp K (hgr n F w) ρ (n - 1)) 0) (((hgr n F w) ((hpp K (hgr n F w) ρ (n - 1)) 0)) - (hmm n K F bar w ρ))))), (p6, .inl (cI, 5, .inl (ro (hsb n 0 (hpp K (hgr n F w) ρ (n - 1))))))]) C h (c_X8_goBehind l D cI cZ kS vS p0 p1 p2 p3 p4 p5 p6 p7 p8 p9 p10 p11 p12 p13 p14 p15 p16 p17 n pgm rdm rdb stt bar hrs crd (hoo n K F bar w ρ) (hmm n K F bar w ρ) bdn snm sdn kcs khr ksn hlg (hpp K (hgr n F w) ρ (n - 1)) 0 hn2 hn5 hpm1 (by omega)) wv_X8_goBehind rfl ⟨rfl, rfl, rfl, rfl, by decide⟩ fk8 0 rfl ml_RX8_124 [3, 0, 1, 2, 4] rfl (fun _ => rfl) ⟨Nat.le_of_ble_eq_true rfl, Nat.le_of_ble_eq_true rfl⟩ ⟨Nat.le_of_ble_eq_true rfl, Nat.le_of_ble_eq_true rfl⟩ (Nat.le_of_ble_eq_true rfl) hl rfl dX8_goesBy_192 (fun u H locs hq h => ?_)
                    have h : HS D A s H locs [(p0, .inr (8, [.ref p1, .int pgm, .ref p2, .int rdm, .int rdb, .int stt, .int (nI n), .int bar, .int hrs, .int crd, .ref p3, .ref p4, .ref p5, .ref p6, .ref p7, .int (hoo n K F bar w ρ), .int (hmm n K F bar w ρ), .ref p8, .ref p9, .int bdn, .ref p10, .int snm, .ref p11, .ref p12, .ref p13, .int sdn, .int kcs, .int khr, .int ksn, .ref p14, .ref p15, .ref p16, .ref p17, .long hlg])), (p3, .inl (cI, 5, .inl K)), (p4, .inl (cI, 5, .inl F)), (p5, .inl (cI, 5, .inl (upd (hgr n F w) ((hpp K (hgr n F w) ρ (n - 1)) 0) (((hgr n F w) ((hpp K (hgr n F w) ρ (n - 1)) 0)) - (hmm n K F bar w ρ))))), (p6, .inl (cI, 5, .inl (ro (hsb n 0 (hpp K (hgr n F w) ρ (n - 1))))))] := h
                    have hq : True := hq
                    have h := h.arr 3 (g := hww n K F bar w ρ) rfl (fun j hj => rfl) rfl
                    have h := h.arr 4 (g := ro (hrr n K F bar w ρ)) rfl (fun j _ => by rw [e4]) rfl
                    exact hret () dX8_goesBy_195 h (trivial)
                · skip
                  have et : hoo n K F bar w ρ = nI (hpp K (hgr n F w) ρ (n - 1) 0) := if_neg c_157
                  refine lv_iload_n hx hb dX8_goesBy_160 rfl (lv_at hl 0 rfl) ?_
                  refine lv_goto (tgt := 165) hx hb dX8_goesBy_161 (by decide) ?_
                  refine r_top (y := hoo n K F bar w ρ) (et.symm) ?_
                  refine r_put C h fk8 0 15 rfl (by decide) mf_RX8_121 rfl (rfl) rfl (Nat.le_of_ble_eq_true rfl) (ws' := [(p0, .inr (8, [.ref p1, .int pgm, .ref p2, .int rdm, .int rdb, .int stt, .int (nI n), .int bar, .int hrs, .int crd, .ref p3, .ref p4, .ref p5, .ref p6, .ref p7, .int (hoo n K F bar w ρ), .int (hmm n K F bar w ρ), .ref p8, .ref p9, .int bdn, .ref p10, .int snm, .ref p11, .ref p12, .ref p13, .int sdn, .int kcs, .int khr, .int ksn, .ref p14, .ref p15, .ref p16, .ref p17, .long hlg])), (p3, .inl (cI, 5, .inl K)), (p4, .inl (cI, 5, .inl F)), (p5, .inl (cI, 5, .inl (hgr n F w))), (p6, .inl (cI, 5, .inl (ro (hpp K (hgr n F w) ρ (n - 1)))))]) rfl dX8_goesBy_165 (fun H locs h => ?_)
                  refine lv_aload_n hx hb dX8_goesBy_168 rfl (lv_at hl 1 rfl) ?_
                  refine r_get C h fk8 0 12 rfl (by decide) mf_RX8_22 rfl dX8_goesBy_169 ?_
                  refine lv_iload_n hx hb dX8_goesBy_172 rfl (lv_at hl 0 rfl) ?_
                  refine lv_dup2_11 hx hb dX8_goesBy_173 rfl rfl ?_
                  refine r_ld C h 3 rfl ((hpp K (hgr n F w) ρ (n - 1)) 0) (rfl) (by omega) (by decide) (x := (hgr n F w) ((hpp K (hgr n F w) ρ (n - 1)) 0)) (rfl) dX8_goesBy_174 ?_
                  refine lv_aload_n hx hb dX8_goesBy_175 rfl (lv_at hl 1 rfl) ?_
                  refine r_get C h fk8 0 16 rfl (by decide) mf_RX8_118 rfl dX8_goesBy_176 ?_
                  refine lv_isub hx hb dX8_goesBy_179 ?_
                  refine r_st C h 3 rfl ((hpp K (hgr n F w) ρ (n - 1)) 0) (rfl) (by omega) (by decide) (g := upd (hgr n F w) ((hpp K (hgr n F w) ρ (n - 1)) 0) (((hgr n F w) ((hpp K (hgr n F w) ρ (n - 1)) 0)) - (hmm n K F bar w ρ))) (fun _ _ => rfl) (ws' := [(p0, .inr (8, [.ref p1, .int pgm, .ref p2, .int rdm, .int rdb, .int stt, .int (nI n), .int bar, .int hrs, .int crd, .ref p3, .ref p4, .ref p5, .ref p6, .ref p7, .int (hoo n K F bar w ρ), .int (hmm n K F bar w ρ), .ref p8, .ref p9, .int bdn, .ref p10, .int snm, .ref p11, .ref p12, .ref p13, .int sdn, .int kcs, .int khr, .int ksn, .ref p14, .ref p15, .ref p16, .ref p17, .long hlg])), (p3, .inl (cI, 5, .inl K)), (p4, .inl (cI, 5, .inl F)), (p5, .inl (cI, 5, .inl (upd (hgr n F w) ((hpp K (hgr n F w) ρ (n - 1)) 0) (((hgr n F w) ((hpp K (hgr n F w) ρ (n - 1)) 0)) - (hmm n K F bar w ρ))))), (p6, .inl (cI, 5, .inl (ro (hpp K (hgr n F w) ρ (n - 1)))))]) rfl dX8_goesBy_180 (fun H locs h => ?_)
                  refine lv_aload_n hx hb dX8_goesBy_181 rfl (lv_at hl 1 rfl) ?_
                  refine r_get C h fk8 0 12 rfl (by decide) mf_RX8_22 rfl dX8_goesBy_182 ?_
                  refine lv_iload_n hx hb dX8_goesBy_185 rfl (lv_at hl 0 rfl) ?_
                  refine r_ld C h 3 rfl ((hpp K (hgr n F w) ρ (n - 1)) 0) (rfl) (by omega) (by decide) (x := hgr n F w (hfi n K F w ρ) - hmm n K F bar w ρ) (upd_s _ _ _) dX8_goesBy_186 ?_
                  refine lv_if_ne (tgt := 195) hx hb dX8_goesBy_187 (by decide) (fun c_187 => ?_) (fun c_187 => ?_)
                  · skip
                    have e4 : hrr n K F bar w ρ = hpp K (hgr n F w) ρ (n - 1) := if_neg c_187
                    have h := h.arr 3 (g := hww n K F bar w ρ) rfl (fun j hj => rfl) rfl
                    have h := h.arr 4 (g := ro (hrr n K F bar w ρ)) rfl (fun j _ => by rw [e4]) rfl
                    exact hret () dX8_goesBy_195 h (trivial)
                  · skip
                    have e4 : hrr n K F bar w ρ = hsb n 0 (hpp K (hgr n F w) ρ (n - 1)) := if_pos c_187
                    refine lv_aload_n hx hb dX8_goesBy_190 rfl (lv_at hl 1 rfl) ?_
                    refine lv_iload_n hx hb dX8_goesBy_191 rfl (lv_at hl 0 rfl) ?_
                    refine k_Vv (rest := []) (as := [.int (nI ((hpp K (hgr n F w) ρ (n - 1)) 0))]) (wc := [(p0, .inr (8, [.ref p1, .int pgm, .ref p2, .int rdm, .int rdb, .int stt, .int (nI n), .int bar, .int hrs, .int crd, .ref p3, .ref p4, .ref p5, .ref p6, .ref p7, .int (hoo n K F bar w ρ), .int (hmm n K F bar w ρ), .ref p8, .ref p9, .int bdn, .ref p10, .int snm, .ref p11, .ref p12, .ref p13, .int sdn, .int kcs, .int khr, .int ksn, .ref p14, .ref p15, .ref p16, .ref p17, .long hlg])), (p6, .inl (cI, 5, .inl (ro (hpp K (hgr n F w) ρ (n - 1)))))]) (wr := [(p3, .inl (cI, 5, .inl K)), (p4, .inl (cI, 5, .inl F)), (p5, .inl (cI, 5, .inl (upd (hgr n F w) ((hpp K (hgr n F w) ρ (n - 1)) 0) (((hgr n F w) ((hpp K (hgr n F w) ρ (n - 1)) 0)) - (hmm n K F bar w ρ)))))]) (isC := [0, 4]) (isR := [1, 2, 3]) (w2 := fun (_ : Unit) => [(p0, .inr (8, [.ref p1, .int pgm, .ref p2, .int rdm, .int rdb, .int stt, .int (nI n), .int bar, .int hrs, .int crd, .ref p3, .ref p4, .ref p5, .ref p6, .ref p7, .int (hoo n K F bar w ρ), .int (hmm n K F bar w ρ), .ref p8, .ref p9, .int bdn, .ref p10, .int snm, .ref p11, .ref p12, .ref p13, .int sdn, .int kcs, .int khr, .int ksn, .ref p14, .ref p15, .ref p16, .ref p17, .long hlg])), (p3, .inl (cI, 5, .inl K)), (p4, .inl (cI, 5, .inl F)), (p5, .inl (cI, 5, .inl (upd (hgr n F w) ((hpp K (hgr n F w) ρ (n - 1)) 0) (((hgr n F w) ((hpp K (hgr n F w) ρ (n - 1)) 0)) - (hmm n K F bar w ρ))))), (p6, .inl (cI, 5, .inl (ro (hsb n 0 (hpp K (hgr n F w) ρ (n - 1))))))]) C h (c_X8_goBehind l D cI cZ kS vS p0 p1 p2 p3 p4 p5 p6 p7 p8 p9 p10 p11 p12 p13 p14 p15 p16 p17 n pgm rdm rdb stt bar hrs crd (hoo n K F bar w ρ) (hmm n K F bar w ρ) bdn snm sdn kcs khr ksn hlg (hpp K (hgr n F w) ρ (n - 1)) 0 hn2 hn5 hpm1 (by omega)) wv_X8_goBehind rfl ⟨rfl, rfl, rfl, rfl, by decide⟩ fk8 0 rfl ml_RX8_124 [3, 0, 1, 2, 4] rfl (fun _ => rfl) ⟨Nat.le_of_ble_eq_true rfl, Nat.le_of_ble_eq_true rfl⟩ ⟨Nat.le_of_ble_eq_true rfl, Nat.le_of_ble_eq_true rfl⟩ (Nat.le_of_ble_eq_true rfl) hl rfl dX8_goesBy_192 (fun u H locs hq h => ?_)
                    have h : HS D A s H locs [(p0, .inr (8, [.ref p1, .int pgm, .ref p2, .int rdm, .int rdb, .int stt, .int (nI n), .int bar, .int hrs, .int crd, .ref p3, .ref p4, .ref p5, .ref p6, .ref p7, .int (hoo n K F bar w ρ), .int (hmm n K F bar w ρ), .ref p8, .ref p9, .int bdn, .ref p10, .int snm, .ref p11, .ref p12, .ref p13, .int sdn, .int kcs, .int khr, .int ksn, .ref p14, .ref p15, .ref p16, .ref p17, .long hlg])), (p3, .inl (cI, 5, .inl K)), (p4, .inl (cI, 5, .inl F)), (p5, .inl (cI, 5, .inl (upd (hgr n F w) ((hpp K (hgr n F w) ρ (n - 1)) 0) (((hgr n F w) ((hpp K (hgr n F w) ρ (n - 1)) 0)) - (hmm n K F bar w ρ))))), (p6, .inl (cI, 5, .inl (ro (hsb n 0 (hpp K (hgr n F w) ρ (n - 1))))))] := h
                    have hq : True := hq
                    have h := h.arr 3 (g := hww n K F bar w ρ) rfl (fun j hj => rfl) rfl
                    have h := h.arr 4 (g := ro (hrr n K F bar w ρ)) rfl (fun j _ => by rw [e4]) rfl
                    exact hret () dX8_goesBy_195 h (trivial)
            · skip
              have c_65 : ¬ n ≤ (i + 1) := fun z => c_65 ((jle (a := n) (b := (i + 1)) (by omega) (by omega)).mpr z)
              have hlt : i + 1 < n := by omega
              have hpm1 := hpm.hpp (K := K) (w := hgr n F w) i (by omega)
              have r0 := hpm1.1 i (by omega)
              have r1 := hpm1.1 (i + 1) (by omega)
              have hKb := hK _ r1
              refine lv_aload_n hx hb dX8_goesBy_68 rfl (lv_at hl 0 rfl) ?_
              refine r_get C h fk8 0 13 rfl (by decide) mf_RX8_25 rfl dX8_goesBy_69 ?_
              refine lv_iload_n hx hb dX8_goesBy_72 rfl (lv_at hl 1 rfl) ?_
              refine r_ld C h 4 rfl (i + 1) (rfl) (by omega) (by decide) (x := nI ((hpp K (hgr n F w) ρ i) (i + 1))) (rfl) dX8_goesBy_73 ?_
              refine lv_istore_n (lv' := [(2, .int (nI ((hpp K (hgr n F w) ρ i) (i + 1)))), (0, .ref p0), (1, .int (nI (i + 1)))]) hx hb dX8_goesBy_74 rfl hl (by decide) rfl (fun ls hl => ?_)
              refine lv_aload_n hx hb dX8_goesBy_75 rfl (lv_at hl 1 rfl) ?_
              refine r_get C h fk8 0 13 rfl (by decide) mf_RX8_25 rfl dX8_goesBy_76 ?_
              refine lv_iload_n hx hb dX8_goesBy_79 rfl (lv_at hl 2 rfl) ?_
              refine lv_iconst (v := 1) hx hb dX8_goesBy_80 (by decide) ?_
              refine lv_isub hx hb dX8_goesBy_81 ?_
              refine r_top (y := nI ((i + 1) - 1)) (pk_sub (a := (i + 1)) (b := 1) (by omega)) ?_
              refine r_top (y := nI i) (rfl) ?_
              refine r_ld C h 4 rfl i (rfl) (by omega) (by decide) (x := nI ((hpp K (hgr n F w) ρ i) i)) (rfl) dX8_goesBy_82 ?_
              refine lv_istore_n (lv' := [(3, .int (nI ((hpp K (hgr n F w) ρ i) i))), (2, .int (nI ((hpp K (hgr n F w) ρ i) (i + 1)))), (0, .ref p0), (1, .int (nI (i + 1)))]) hx hb dX8_goesBy_83 rfl hl (by decide) rfl (fun ls hl => ?_)
              refine lv_aload_n hx hb dX8_goesBy_84 rfl (lv_at hl 2 rfl) ?_
              refine lv_iload_n hx hb dX8_goesBy_85 rfl (lv_at hl 1 rfl) ?_
              refine lv_iload_n hx hb dX8_goesBy_86 rfl (lv_at hl 0 rfl) ?_
              refine k_Vi (rest := []) (as := [.int (nI ((hpp K (hgr n F w) ρ i) (i + 1))), .int (nI ((hpp K (hgr n F w) ρ i) i))]) (wc := [(p0, .inr (8, [.ref p1, .int pgm, .ref p2, .int rdm, .int rdb, .int stt, .int (nI n), .int bar, .int hrs, .int crd, .ref p3, .ref p4, .ref p5, .ref p6, .ref p7, .int tof, .int tmu, .ref p8, .ref p9, .int bdn, .ref p10, .int snm, .ref p11, .ref p12, .ref p13, .int sdn, .int kcs, .int khr, .int ksn, .ref p14, .ref p15, .ref p16, .ref p17, .long hlg])), (p3, .inl (cI, 5, .inl K)), (p5, .inl (cI, 5, .inl (hgr n F w)))]) (wr := [(p4, .inl (cI, 5, .inl F)), (p6, .inl (cI, 5, .inl (ro (hpp K (hgr n F w) ρ i))))]) (isC := [0, 1, 3]) (isR := [2, 4]) (w2 := fun (_ : Unit) => [(p0, .inr (8, [.ref p1, .int pgm, .ref p2, .int rdm, .int rdb, .int stt, .int (nI n), .int bar, .int hrs, .int crd, .ref p3, .ref p4, .ref p5, .ref p6, .ref p7, .int tof, .int tmu, .ref p8, .ref p9, .int bdn, .ref p10, .int snm, .ref p11, .ref p12, .ref p13, .int sdn, .int kcs, .int khr, .int ksn, .ref p14, .ref p15, .ref p16, .ref p17, .long hlg])), (p3, .inl (cI, 5, .inl K)), (p4, .inl (cI, 5, .inl F)), (p5, .inl (cI, 5, .inl (hgr n F w))), (p6, .inl (cI, 5, .inl (ro (hpp K (hgr n F w) ρ i))))]) C h (c_X8_pushes l D cI cZ kS vS p0 p1 p2 p3 p4 p5 p6 p7 p8 p9 p10 p11 p12 p13 p14 p15 p16 p17 n pgm rdm rdb stt bar hrs crd tof tmu bdn snm sdn kcs khr ksn hlg (hgr n F w) K ((hpp K (hgr n F w) ρ i) (i + 1)) ((hpp K (hgr n F w) ρ i) i) (by omega) (by omega) hKb) wv_X8_pushes rfl ⟨rfl, rfl, rfl, rfl, by decide⟩ fk8 0 rfl ml_RX8_114 [2, 3, 0, 4, 1] rfl (fun _ => rfl) ⟨Nat.le_of_ble_eq_true rfl, Nat.le_of_ble_eq_true rfl⟩ ⟨Nat.le_of_ble_eq_true rfl, Nat.le_of_ble_eq_true rfl⟩ (Nat.le_of_ble_eq_true rfl) hl rfl dX8_goesBy_87 (fun r u H locs hq h => ?_)
              have h : HS D A s H locs [(p0, .inr (8, [.ref p1, .int pgm, .ref p2, .int rdm, .int rdb, .int stt, .int (nI n), .int bar, .int hrs, .int crd, .ref p3, .ref p4, .ref p5, .ref p6, .ref p7, .int tof, .int tmu, .ref p8, .ref p9, .int bdn, .ref p10, .int snm, .ref p11, .ref p12, .ref p13, .int sdn, .int kcs, .int khr, .int ksn, .ref p14, .ref p15, .ref p16, .ref p17, .long hlg])), (p3, .inl (cI, 5, .inl K)), (p4, .inl (cI, 5, .inl F)), (p5, .inl (cI, 5, .inl (hgr n F w))), (p6, .inl (cI, 5, .inl (ro (hpp K (hgr n F w) ρ i))))] := h
              have hq : r = bI (hps K (hgr n F w) ((hpp K (hgr n F w) ρ i) (i + 1)) ((hpp K (hgr n F w) ρ i) i)) := hq
              have hq := hq.symm
              subst hq
              refine lv_if_eq (tgt := 109) hx hb dX8_goesBy_90 (by decide) (fun c_90 => ?_) (fun c_90 => ?_)
              · skip
                have c_90 := bI_0.mp c_90
                have hst : ∀ j, j < 5 → ro (hpp K (hgr n F w) ρ i) j = ro (hpp K (hgr n F w) ρ (i + 1)) j := fun j _ => by rw [hpp_f c_90]
                refine lv_iinc (v := nI ((i + 1) + 1)) (lv' := [(1, .int (nI ((i + 1) + 1))), (3, .int (nI ((hpp K (hgr n F w) ρ i) i))), (2, .int (nI ((hpp K (hgr n F w) ρ i) (i + 1)))), (0, .ref p0)]) hx hb dX8_goesBy_109 hl (k := 3) rfl (nI_1 (i + 1)) (by decide) rfl (fun ls hl => ?_)
                refine lv_goto (tgt := 60) hx hb dX8_goesBy_112 (by decide) ?_
                have h := h.arr 4 (g := ro (hpp K (hgr n F w) ρ (i + 1))) rfl (hst) rfl
                exact ih60  (i + 1) (by omega) (by first | assumption | omega) _ _ _ h (lv_sub hl [3, 0] rfl)
              · skip
                have c_90 := bI_n0.mp c_90
                have hst : ∀ j, j < 5 → ro (un (un (hpp K (hgr n F w) ρ i) (i + 1) (hpp K (hgr n F w) ρ i i)) i (hpp K (hgr n F w) ρ i (i + 1))) j = ro (hpp K (hgr n F w) ρ (i + 1)) j := fun j _ => by rw [hpp_t c_90, un_comm (by omega)]
                refine lv_aload_n hx hb dX8_goesBy_93 rfl (lv_at hl 2 rfl) ?_
                refine r_get C h fk8 0 13 rfl (by decide) mf_RX8_25 rfl dX8_goesBy_94 ?_
                refine lv_iload_n hx hb dX8_goesBy_97 rfl (lv_at hl 3 rfl) ?_
                refine lv_iload_n hx hb dX8_goesBy_98 rfl (lv_at hl 0 rfl) ?_
                refine r_st C h 4 rfl (i + 1) (rfl) (by omega) (by decide) (g := ro (un (hpp K (hgr n F w) ρ i) (i + 1) ((hpp K (hgr n F w) ρ i) i))) (fun j _ => ro_un j) (ws' := [(p0, .inr (8, [.ref p1, .int pgm, .ref p2, .int rdm, .int rdb, .int stt, .int (nI n), .int bar, .int hrs, .int crd, .ref p3, .ref p4, .ref p5, .ref p6, .ref p7, .int tof, .int tmu, .ref p8, .ref p9, .int bdn, .ref p10, .int snm, .ref p11, .ref p12, .ref p13, .int sdn, .int kcs, .int khr, .int ksn, .ref p14, .ref p15, .ref p16, .ref p17, .long hlg])), (p3, .inl (cI, 5, .inl K)), (p4, .inl (cI, 5, .inl F)), (p5, .inl (cI, 5, .inl (hgr n F w))), (p6, .inl (cI, 5, .inl (ro (un (hpp K (hgr n F w) ρ i) (i + 1) ((hpp K (hgr n F w) ρ i) i)))))]) rfl dX8_goesBy_99 (fun H locs h => ?_)
                refine lv_aload_n hx hb dX8_goesBy_100 rfl (lv_at hl 2 rfl) ?_
                refine r_get C h fk8 0 13 rfl (by decide) mf_RX8_25 rfl dX8_goesBy_101 ?_
                refine lv_iload_n hx hb dX8_goesBy_104 rfl (lv_at hl 3 rfl) ?_
                refine lv_iconst (v := 1) hx hb dX8_goesBy_105 (by decide) ?_
                refine lv_isub hx hb dX8_goesBy_106 ?_
                refine r_top (y := nI ((i + 1) - 1)) (pk_sub (a := (i + 1)) (b := 1) (by omega)) ?_
                refine lv_iload_n hx hb dX8_goesBy_107 rfl (lv_at hl 1 rfl) ?_
                refine r_st C h 4 rfl i (rfl) (by omega) (by decide) (g := ro (un (un (hpp K (hgr n F w) ρ i) (i + 1) ((hpp K (hgr n F w) ρ i) i)) i ((hpp K (hgr n F w) ρ i) (i + 1)))) (fun j _ => ro_un j) (ws' := [(p0, .inr (8, [.ref p1, .int pgm, .ref p2, .int rdm, .int rdb, .int stt, .int (nI n), .int bar, .int hrs, .int crd, .ref p3, .ref p4, .ref p5, .ref p6, .ref p7, .int tof, .int tmu, .ref p8, .ref p9, .int bdn, .ref p10, .int snm, .ref p11, .ref p12, .ref p13, .int sdn, .int kcs, .int khr, .int ksn, .ref p14, .ref p15, .ref p16, .ref p17, .long hlg])), (p3, .inl (cI, 5, .inl K)), (p4, .inl (cI, 5, .inl F)), (p5, .inl (cI, 5, .inl (hgr n F w))), (p6, .inl (cI, 5, .inl (ro (un (un (hpp K (hgr n F w) ρ i) (i + 1) ((hpp K (hgr n F w) ρ i) i)) i ((hpp K (hgr n F w) ρ i) (i + 1))))))]) rfl dX8_goesBy_108 (fun H locs h => ?_)
                refine lv_iinc (v := nI ((i + 1) + 1)) (lv' := [(1, .int (nI ((i + 1) + 1))), (3, .int (nI ((hpp K (hgr n F w) ρ i) i))), (2, .int (nI ((hpp K (hgr n F w) ρ i) (i + 1)))), (0, .ref p0)]) hx hb dX8_goesBy_109 hl (k := 3) rfl (nI_1 (i + 1)) (by decide) rfl (fun ls hl => ?_)
                refine lv_goto (tgt := 60) hx hb dX8_goesBy_112 (by decide) ?_
                have h := h.arr 4 (g := ro (hpp K (hgr n F w) ρ (i + 1))) rfl (hst) rfl
                exact ih60  (i + 1) (by omega) (by first | assumption | omega) _ _ _ h (lv_sub hl [3, 0] rfl)
        have h := h.arr 4 (g := ro (hpp K (hgr n F w) ρ 0)) rfl (fun j _ => rfl) rfl
        exact L60 ((n - 0) + 1) 0 (by omega) (by first | assumption | omega) _ _ _ h (lv_sub hl [1, 0] rfl)
      · skip
        have c_7 : ¬ n ≤ i := fun z => c_7 ((jle (a := n) (b := i) (by omega) (by omega)).mpr z)
        have hlt : i < n := by omega
        refine lv_aload_n hx hb dX8_goesBy_10 rfl (lv_at hl 0 rfl) ?_
        refine r_get C h fk8 0 12 rfl (by decide) mf_RX8_22 rfl dX8_goesBy_11 ?_
        refine lv_iload_n hx hb dX8_goesBy_14 rfl (lv_at hl 1 rfl) ?_
        refine lv_aload_n hx hb dX8_goesBy_15 rfl (lv_at hl 0 rfl) ?_
        refine r_get C h fk8 0 12 rfl (by decide) mf_RX8_22 rfl dX8_goesBy_16 ?_
        refine lv_iload_n hx hb dX8_goesBy_19 rfl (lv_at hl 1 rfl) ?_
        refine r_ld C h 3 rfl i (rfl) (by omega) (by decide) (x := (hgr i F w) i) (rfl) dX8_goesBy_20 ?_
        refine lv_aload_n hx hb dX8_goesBy_21 rfl (lv_at hl 0 rfl) ?_
        refine r_get C h fk8 0 11 rfl (by decide) mf_RX8_19 rfl dX8_goesBy_22 ?_
        refine lv_iload_n hx hb dX8_goesBy_25 rfl (lv_at hl 1 rfl) ?_
        refine r_ld C h 2 rfl i (rfl) (by omega) (by decide) (x := F i) (rfl) dX8_goesBy_26 ?_
        refine lv_iadd hx hb dX8_goesBy_27 ?_
        refine lv_bipush (v := 99) hx hb dX8_goesBy_28 (by decide) ?_
        refine lv_icmp_le (tgt := 38) hx hb dX8_goesBy_30 (by decide) (fun c_30 => ?_) (fun c_30 => ?_)
        · skip
          refine lv_aload_n hx hb dX8_goesBy_38 rfl (lv_at hl 0 rfl) ?_
          refine r_get C h fk8 0 12 rfl (by decide) mf_RX8_22 rfl dX8_goesBy_39 ?_
          refine lv_iload_n hx hb dX8_goesBy_42 rfl (lv_at hl 1 rfl) ?_
          refine r_ld C h 3 rfl i (rfl) (by omega) (by decide) (x := (hgr i F w) i) (rfl) dX8_goesBy_43 ?_
          refine lv_aload_n hx hb dX8_goesBy_44 rfl (lv_at hl 0 rfl) ?_
          refine r_get C h fk8 0 11 rfl (by decide) mf_RX8_19 rfl dX8_goesBy_45 ?_
          refine lv_iload_n hx hb dX8_goesBy_48 rfl (lv_at hl 1 rfl) ?_
          refine r_ld C h 2 rfl i (rfl) (by omega) (by decide) (x := F i) (rfl) dX8_goesBy_49 ?_
          refine lv_iadd hx hb dX8_goesBy_50 ?_
          refine r_top (y := hcap (hgr i F w i + F i)) (by first | exact (hcap_t c_30).symm | exact (hcap_f c_30).symm) ?_
          refine r_st C h 3 rfl i (rfl) (by omega) (by decide) (g := upd (hgr i F w) i (hcap (hgr i F w i + F i))) (fun _ _ => rfl) (ws' := [(p0, .inr (8, [.ref p1, .int pgm, .ref p2, .int rdm, .int rdb, .int stt, .int (nI n), .int bar, .int hrs, .int crd, .ref p3, .ref p4, .ref p5, .ref p6, .ref p7, .int tof, .int tmu, .ref p8, .ref p9, .int bdn, .ref p10, .int snm, .ref p11, .ref p12, .ref p13, .int sdn, .int kcs, .int khr, .int ksn, .ref p14, .ref p15, .ref p16, .ref p17, .long hlg])), (p3, .inl (cI, 5, .inl K)), (p4, .inl (cI, 5, .inl F)), (p5, .inl (cI, 5, .inl (upd (hgr i F w) i (hcap (hgr i F w i + F i))))), (p6, .inl (cI, 5, .inl (ro ρ)))]) rfl dX8_goesBy_51 (fun H locs h => ?_)
          refine lv_iinc (v := nI (i + 1)) (lv' := [(1, .int (nI (i + 1))), (0, .ref p0)]) hx hb dX8_goesBy_52 hl (k := 1) rfl (nI_1 i) (by decide) rfl (fun ls hl => ?_)
          refine lv_goto (tgt := 2) hx hb dX8_goesBy_55 (by decide) ?_
          have h := h.arr 3 (g := hgr (i + 1) F w) rfl (fun j _ => hgr_s j) rfl
          exact ih2  (i + 1) (by omega) (by first | assumption | omega) _ _ _ h (lv_sub hl [1, 0] rfl)
        · skip
          refine lv_bipush (v := 99) hx hb dX8_goesBy_33 (by decide) ?_
          refine lv_goto (tgt := 51) hx hb dX8_goesBy_35 (by decide) ?_
          refine r_top (y := hcap (hgr i F w i + F i)) (by first | exact (hcap_t c_30).symm | exact (hcap_f c_30).symm) ?_
          refine r_st C h 3 rfl i (rfl) (by omega) (by decide) (g := upd (hgr i F w) i (hcap (hgr i F w i + F i))) (fun _ _ => rfl) (ws' := [(p0, .inr (8, [.ref p1, .int pgm, .ref p2, .int rdm, .int rdb, .int stt, .int (nI n), .int bar, .int hrs, .int crd, .ref p3, .ref p4, .ref p5, .ref p6, .ref p7, .int tof, .int tmu, .ref p8, .ref p9, .int bdn, .ref p10, .int snm, .ref p11, .ref p12, .ref p13, .int sdn, .int kcs, .int khr, .int ksn, .ref p14, .ref p15, .ref p16, .ref p17, .long hlg])), (p3, .inl (cI, 5, .inl K)), (p4, .inl (cI, 5, .inl F)), (p5, .inl (cI, 5, .inl (upd (hgr i F w) i (hcap (hgr i F w i + F i))))), (p6, .inl (cI, 5, .inl (ro ρ)))]) rfl dX8_goesBy_51 (fun H locs h => ?_)
          refine lv_iinc (v := nI (i + 1)) (lv' := [(1, .int (nI (i + 1))), (0, .ref p0)]) hx hb dX8_goesBy_52 hl (k := 1) rfl (nI_1 i) (by decide) rfl (fun ls hl => ?_)
          refine lv_goto (tgt := 2) hx hb dX8_goesBy_55 (by decide) ?_
          have h := h.arr 3 (g := hgr (i + 1) F w) rfl (fun j _ => hgr_s j) rfl
          exact ih2  (i + 1) (by omega) (by first | assumption | omega) _ _ _ h (lv_sub hl [1, 0] rfl)
  have h := h.arr 3 (g := hgr 0 F w) rfl (fun j _ => by rw [hgr_0]) rfl
  exact L2 ((n - 0) + 1) 0 (by omega) (by first | assumption | omega) _ _ _ h (lv_sub hl [1, 0] rfl)

set_option maxHeartbeats 4000000 in
set_option maxRecDepth 100000 in
theorem c_X8_standing (l : Launch) (D : va_G) (cI cZ : ClassId) (kS vS : Nat) (p0 : Nat) (p1 : Nat) (p2 : Nat) (p3 : Nat) (p4 : Nat) (p5 : Nat) (p6 : Nat) (p7 : Nat) (p8 : Nat) (p9 : Nat) (p10 : Nat) (p11 : Nat) (p12 : Nat) (p13 : Nat) (p14 : Nat) (p15 : Nat) (p16 : Nat) (p17 : Nat) (n : Nat) (pgm : Int32) (rdm : Int32) (rdb : Int32) (stt : Int32) (bar : Int32) (hrs : Int32) (crd : Int32) (tof : Int32) (tmu : Int32) (bdn : Int32) (snm : Int32) (sdn : Int32) (kcs : Int32) (khr : Int32) (ksn : Int32) (hlg : Int64) (w : Nat → Int32) (hn5 : n ≤ 5) : CI l yX8_standing cX8_standing 3 .int D cI cZ kS vS 0 0 0 0 [.ref p0] [(p0, .inr (8, [.ref p1, .int pgm, .ref p2, .int rdm, .int rdb, .int stt, .int (nI n), .int bar, .int hrs, .int crd, .ref p3, .ref p4, .ref p5, .ref p6, .ref p7, .int tof, .int tmu, .ref p8, .ref p9, .int bdn, .ref p10, .int snm, .ref p11, .ref p12, .ref p13, .int sdn, .int kcs, .int khr, .int ksn, .ref p14, .ref p15, .ref p16, .ref p17, .long hlg])), (p5, .inl (cI, 5, .inl w))] (fun (r : Int32) (_ : Unit) => r = hsum w n) (fun (_ : Unit) => [(p0, .inr (8, [.ref p1, .int pgm, .ref p2, .int rdm, .int rdb, .int stt, .int (nI n), .int bar, .int hrs, .int crd, .ref p3, .ref p4, .ref p5, .ref p6, .ref p7, .int tof, .int tmu, .ref p8, .ref p9, .int bdn, .ref p10, .int snm, .ref p11, .ref p12, .ref p13, .int sdn, .int kcs, .int khr, .int ksn, .ref p14, .ref p15, .ref p16, .ref p17, .long hlg])), (p5, .inl (cI, 5, .inl w))]) := by
  refine CI_intro (by decide) (Nat.le_of_ble_eq_true rfl) ?_
  intro p e s m args below meth c A Q ls C h hret hl
  have C : CX p s m args c cX8_standing 3 RX8 D cI cZ kS vS A := C
  have hx := C.1.1
  have hb := C.1.2.1
  have hl : lv_has ls 3 [(0, .ref p0)] := hl
  refine lv_iconst (v := 0) hx hb dX8_standing_0 (by decide) ?_
  refine lv_istore_n (lv' := [(1, .int 0), (0, .ref p0)]) hx hb dX8_standing_1 rfl hl (by decide) rfl (fun ls hl => ?_)
  refine lv_iconst (v := 0) hx hb dX8_standing_2 (by decide) ?_
  refine lv_istore_n (lv' := [(2, .int 0), (1, .int 0), (0, .ref p0)]) hx hb dX8_standing_3 rfl hl (by decide) rfl (fun ls hl => ?_)
  have L4 : ∀ (fu : Nat) (i : Nat), (n - i) < fu → (hi : i ≤ n) → ∀ (H : Heap) (locs : List Loc) (ls : Array Slot), HS D A s H locs [(p0, .inr (8, [.ref p1, .int pgm, .ref p2, .int rdm, .int rdb, .int stt, .int (nI n), .int bar, .int hrs, .int crd, .ref p3, .ref p4, .ref p5, .ref p6, .ref p7, .int tof, .int tmu, .ref p8, .ref p9, .int bdn, .ref p10, .int snm, .ref p11, .ref p12, .ref p13, .int sdn, .int kcs, .int khr, .int ksn, .ref p14, .ref p15, .ref p16, .ref p17, .long hlg])), (p5, .inl (cI, 5, .inl w))] → lv_has ls 3 [(0, .ref p0), (1, .int (hsum w i)), (2, .int (nI i))] → W p l e (rmO 0 0 0 0) s m args below meth c H locs 0 0 Q (F0 m 4 ls []) := by
    intro fu
    induction fu with
    | zero => intro i hfu; exact absurd hfu (Nat.not_lt_zero _)
    | succ fu ih4 =>
      intro i hfu hi H locs ls h hl
      refine lv_iload_n hx hb dX8_standing_4 rfl (lv_at hl 2 rfl) ?_
      refine lv_aload_n hx hb dX8_standing_5 rfl (lv_at hl 0 rfl) ?_
      refine r_get C h fk8 0 6 rfl (by decide) mf_RX8_99 rfl dX8_standing_6 ?_
      refine lv_icmp_ge (tgt := 27) hx hb dX8_standing_9 (by decide) (fun c_9 => ?_) (fun c_9 => ?_)
      · skip
        have c_9 := (jle (a := n) (b := i) (by omega) (by omega)).mp c_9
        obtain rfl : n = i := by omega
        refine lv_iload_n hx hb dX8_standing_27 rfl (lv_at hl 1 rfl) ?_
        exact hret (r := hsum w n) () dX8_standing_28 h (rfl) (rfl)
      · skip
        have c_9 : ¬ n ≤ i := fun z => c_9 ((jle (a := n) (b := i) (by omega) (by omega)).mpr z)
        have hlt : i < n := by omega
        refine lv_iload_n hx hb dX8_standing_12 rfl (lv_at hl 1 rfl) ?_
        refine lv_aload_n hx hb dX8_standing_13 rfl (lv_at hl 0 rfl) ?_
        refine r_get C h fk8 0 12 rfl (by decide) mf_RX8_22 rfl dX8_standing_14 ?_
        refine lv_iload_n hx hb dX8_standing_17 rfl (lv_at hl 2 rfl) ?_
        refine r_ld C h 1 rfl i (rfl) (by omega) (by decide) (x := w i) (rfl) dX8_standing_18 ?_
        refine lv_iadd hx hb dX8_standing_19 ?_
        refine r_top (y := hsum w (i + 1)) (rfl) ?_
        refine lv_istore_n (lv' := [(1, .int (hsum w (i + 1))), (0, .ref p0), (2, .int (nI i))]) hx hb dX8_standing_20 rfl hl (by decide) rfl (fun ls hl => ?_)
        refine lv_iinc (v := nI (i + 1)) (lv' := [(2, .int (nI (i + 1))), (1, .int (hsum w (i + 1))), (0, .ref p0)]) hx hb dX8_standing_21 hl (k := 2) rfl (nI_1 i) (by decide) rfl (fun ls hl => ?_)
        refine lv_goto (tgt := 4) hx hb dX8_standing_24 (by decide) ?_
        exact ih4  (i + 1) (by omega) (by first | assumption | omega) _ _ _ h (lv_sub hl [2, 1, 0] rfl)
  exact L4 ((n - 0) + 1) 0 (by omega) (by first | assumption | omega) _ _ _ h (lv_sub hl [2, 1, 0] rfl)

set_option maxHeartbeats 4000000 in
set_option maxRecDepth 100000 in
theorem c_X8_takenAll (l : Launch) (D : va_G) (cI cZ : ClassId) (kS vS : Nat) (p0 : Nat) (p1 : Nat) (p2 : Nat) (p3 : Nat) (p4 : Nat) (p5 : Nat) (p6 : Nat) (p7 : Nat) (p8 : Nat) (p9 : Nat) (p10 : Nat) (p11 : Nat) (p12 : Nat) (p13 : Nat) (p14 : Nat) (p15 : Nat) (p16 : Nat) (p17 : Nat) (n : Nat) (pgm : Int32) (rdm : Int32) (rdb : Int32) (stt : Int32) (bar : Int32) (hrs : Int32) (crd : Int32) (tof : Int32) (tmu : Int32) (bdn : Int32) (snm : Int32) (sdn : Int32) (kcs : Int32) (khr : Int32) (ksn : Int32) (hlg : Int64) (tk : Nat → Int32) (hn5 : n ≤ 5) : CI l yX8_takenAll cX8_takenAll 3 .int D cI cZ kS vS 0 0 0 0 [.ref p0] [(p0, .inr (8, [.ref p1, .int pgm, .ref p2, .int rdm, .int rdb, .int stt, .int (nI n), .int bar, .int hrs, .int crd, .ref p3, .ref p4, .ref p5, .ref p6, .ref p7, .int tof, .int tmu, .ref p8, .ref p9, .int bdn, .ref p10, .int snm, .ref p11, .ref p12, .ref p13, .int sdn, .int kcs, .int khr, .int ksn, .ref p14, .ref p15, .ref p16, .ref p17, .long hlg])), (p7, .inl (cI, 5, .inl tk))] (fun (r : Int32) (_ : Unit) => r = hsum tk n) (fun (_ : Unit) => [(p0, .inr (8, [.ref p1, .int pgm, .ref p2, .int rdm, .int rdb, .int stt, .int (nI n), .int bar, .int hrs, .int crd, .ref p3, .ref p4, .ref p5, .ref p6, .ref p7, .int tof, .int tmu, .ref p8, .ref p9, .int bdn, .ref p10, .int snm, .ref p11, .ref p12, .ref p13, .int sdn, .int kcs, .int khr, .int ksn, .ref p14, .ref p15, .ref p16, .ref p17, .long hlg])), (p7, .inl (cI, 5, .inl tk))]) := by
  refine CI_intro (by decide) (Nat.le_of_ble_eq_true rfl) ?_
  intro p e s m args below meth c A Q ls C h hret hl
  have C : CX p s m args c cX8_takenAll 3 RX8 D cI cZ kS vS A := C
  have hx := C.1.1
  have hb := C.1.2.1
  have hl : lv_has ls 3 [(0, .ref p0)] := hl
  refine lv_iconst (v := 0) hx hb dX8_takenAll_0 (by decide) ?_
  refine lv_istore_n (lv' := [(1, .int 0), (0, .ref p0)]) hx hb dX8_takenAll_1 rfl hl (by decide) rfl (fun ls hl => ?_)
  refine lv_iconst (v := 0) hx hb dX8_takenAll_2 (by decide) ?_
  refine lv_istore_n (lv' := [(2, .int 0), (1, .int 0), (0, .ref p0)]) hx hb dX8_takenAll_3 rfl hl (by decide) rfl (fun ls hl => ?_)
  have L4 : ∀ (fu : Nat) (i : Nat), (n - i) < fu → (hi : i ≤ n) → ∀ (H : Heap) (locs : List Loc) (ls : Array Slot), HS D A s H locs [(p0, .inr (8, [.ref p1, .int pgm, .ref p2, .int rdm, .int rdb, .int stt, .int (nI n), .int bar, .int hrs, .int crd, .ref p3, .ref p4, .ref p5, .ref p6, .ref p7, .int tof, .int tmu, .ref p8, .ref p9, .int bdn, .ref p10, .int snm, .ref p11, .ref p12, .ref p13, .int sdn, .int kcs, .int khr, .int ksn, .ref p14, .ref p15, .ref p16, .ref p17, .long hlg])), (p7, .inl (cI, 5, .inl tk))] → lv_has ls 3 [(0, .ref p0), (1, .int (hsum tk i)), (2, .int (nI i))] → W p l e (rmO 0 0 0 0) s m args below meth c H locs 0 0 Q (F0 m 4 ls []) := by
    intro fu
    induction fu with
    | zero => intro i hfu; exact absurd hfu (Nat.not_lt_zero _)
    | succ fu ih4 =>
      intro i hfu hi H locs ls h hl
      refine lv_iload_n hx hb dX8_takenAll_4 rfl (lv_at hl 2 rfl) ?_
      refine lv_aload_n hx hb dX8_takenAll_5 rfl (lv_at hl 0 rfl) ?_
      refine r_get C h fk8 0 6 rfl (by decide) mf_RX8_99 rfl dX8_takenAll_6 ?_
      refine lv_icmp_ge (tgt := 27) hx hb dX8_takenAll_9 (by decide) (fun c_9 => ?_) (fun c_9 => ?_)
      · skip
        have c_9 := (jle (a := n) (b := i) (by omega) (by omega)).mp c_9
        obtain rfl : n = i := by omega
        refine lv_iload_n hx hb dX8_takenAll_27 rfl (lv_at hl 1 rfl) ?_
        exact hret (r := hsum tk n) () dX8_takenAll_28 h (rfl) (rfl)
      · skip
        have c_9 : ¬ n ≤ i := fun z => c_9 ((jle (a := n) (b := i) (by omega) (by omega)).mpr z)
        have hlt : i < n := by omega
        refine lv_iload_n hx hb dX8_takenAll_12 rfl (lv_at hl 1 rfl) ?_
        refine lv_aload_n hx hb dX8_takenAll_13 rfl (lv_at hl 0 rfl) ?_
        refine r_get C h fk8 0 14 rfl (by decide) mf_RX8_28 rfl dX8_takenAll_14 ?_
        refine lv_iload_n hx hb dX8_takenAll_17 rfl (lv_at hl 2 rfl) ?_
        refine r_ld C h 1 rfl i (rfl) (by omega) (by decide) (x := tk i) (rfl) dX8_takenAll_18 ?_
        refine lv_iadd hx hb dX8_takenAll_19 ?_
        refine r_top (y := hsum tk (i + 1)) (rfl) ?_
        refine lv_istore_n (lv' := [(1, .int (hsum tk (i + 1))), (0, .ref p0), (2, .int (nI i))]) hx hb dX8_takenAll_20 rfl hl (by decide) rfl (fun ls hl => ?_)
        refine lv_iinc (v := nI (i + 1)) (lv' := [(2, .int (nI (i + 1))), (1, .int (hsum tk (i + 1))), (0, .ref p0)]) hx hb dX8_takenAll_21 hl (k := 2) rfl (nI_1 i) (by decide) rfl (fun ls hl => ?_)
        refine lv_goto (tgt := 4) hx hb dX8_takenAll_24 (by decide) ?_
        exact ih4  (i + 1) (by omega) (by first | assumption | omega) _ _ _ h (lv_sub hl [2, 1, 0] rfl)
  exact L4 ((n - 0) + 1) 0 (by omega) (by first | assumption | omega) _ _ _ h (lv_sub hl [2, 1, 0] rfl)

set_option maxHeartbeats 4000000 in
set_option maxRecDepth 100000 in
theorem c_X8_layAside (l : Launch) (D : va_G) (cI cZ : ClassId) (kS vS : Nat) (p0 : Nat) (p1 : Nat) (p2 : Nat) (p3 : Nat) (p4 : Nat) (p5 : Nat) (p6 : Nat) (p7 : Nat) (p8 : Nat) (p9 : Nat) (p10 : Nat) (p11 : Nat) (p12 : Nat) (p13 : Nat) (p14 : Nat) (p15 : Nat) (p16 : Nat) (p17 : Nat) (n : Nat) (pgm : Int32) (rdm : Int32) (rdb : Int32) (stt : Int32) (bar : Int32) (hrs : Int32) (crd : Int32) (tof : Int32) (tmu : Int32) (bdn : Int32) (snm : Int32) (sdn : Int32) (kcs : Int32) (khr : Int32) (ksn : Int32) (hlg : Int64) (f1 : Nat → Int32) (f2 : Nat → Int32) (g1 : Nat → Int32) (g2 : Nat → Int32)  : CV l yX8_layAside cX8_layAside 1 D cI cZ kS vS 1 22 0 0 [.ref p0] [(p0, .inr (8, [.ref p1, .int pgm, .ref p2, .int rdm, .int rdb, .int stt, .int (nI n), .int bar, .int hrs, .int crd, .ref p3, .ref p4, .ref p5, .ref p6, .ref p7, .int tof, .int tmu, .ref p8, .ref p9, .int bdn, .ref p10, .int snm, .ref p11, .ref p12, .ref p13, .int sdn, .int kcs, .int khr, .int ksn, .ref p14, .ref p15, .ref p16, .ref p17, .long hlg])), (p5, .inl (cI, 5, .inl f1)), (p6, .inl (cI, 5, .inl f2)), (p8, .inl (cI, 5, .inl g1)), (p9, .inl (cI, 5, .inl g2))] (fun (_ : Unit) => True) (fun (_ : Unit) => [(p0, .inr (8, [.ref p1, .int pgm, .ref p2, .int rdm, .int rdb, .int stt, .int (nI n), .int bar, .int hrs, .int crd, .ref p3, .ref p4, .ref p5, .ref p6, .ref p7, .int tof, .int tmu, .ref p8, .ref p9, .int bdn, .ref p10, .int snm, .ref p11, .ref p12, .ref p13, .int sdn, .int kcs, .int khr, .int ksn, .ref p14, .ref p15, .ref p16, .ref p17, .long hlg])), (p5, .inl (cI, 5, .inl f1)), (p6, .inl (cI, 5, .inl f2)), (p8, .inl (cI, 5, .inl f1)), (p9, .inl (cI, 5, .inl f2))]) := by
  refine CV_intro (by decide) (Nat.le_of_ble_eq_true rfl) ?_
  intro p e s m args below meth c A Q ls C hini h hret hl
  have C : CX p s m args c cX8_layAside 1 RX8 D cI cZ kS vS A := C
  have hx := C.1.1
  have hb := C.1.2.1
  have hl : lv_has ls 1 [(0, .ref p0)] := hl
  refine lv_aload_n hx hb dX8_layAside_0 rfl (lv_at hl 0 rfl) ?_
  refine r_get C h fk8 0 12 rfl (by decide) mf_RX8_22 rfl dX8_layAside_1 ?_
  refine lv_aload_n hx hb dX8_layAside_4 rfl (lv_at hl 0 rfl) ?_
  refine r_get C h fk8 0 17 rfl (by decide) mf_RX8_31 rfl dX8_layAside_5 ?_
  refine k_Sv (rest := []) (as := [.ref p5, .ref p8]) (wc := [(p5, .inl (cI, 5, .inl f1)), (p8, .inl (cI, 5, .inl g1))]) (wr := [(p0, .inr (8, [.ref p1, .int pgm, .ref p2, .int rdm, .int rdb, .int stt, .int (nI n), .int bar, .int hrs, .int crd, .ref p3, .ref p4, .ref p5, .ref p6, .ref p7, .int tof, .int tmu, .ref p8, .ref p9, .int bdn, .ref p10, .int snm, .ref p11, .ref p12, .ref p13, .int sdn, .int kcs, .int khr, .int ksn, .ref p14, .ref p15, .ref p16, .ref p17, .long hlg])), (p6, .inl (cI, 5, .inl f2)), (p9, .inl (cI, 5, .inl g2))]) (isC := [1, 3]) (isR := [0, 2, 4]) (w2 := fun (_ : Unit) => [(p0, .inr (8, [.ref p1, .int pgm, .ref p2, .int rdm, .int rdb, .int stt, .int (nI n), .int bar, .int hrs, .int crd, .ref p3, .ref p4, .ref p5, .ref p6, .ref p7, .int tof, .int tmu, .ref p8, .ref p9, .int bdn, .ref p10, .int snm, .ref p11, .ref p12, .ref p13, .int sdn, .int kcs, .int khr, .int ksn, .ref p14, .ref p15, .ref p16, .ref p17, .long hlg])), (p5, .inl (cI, 5, .inl f1)), (p6, .inl (cI, 5, .inl f2)), (p8, .inl (cI, 5, .inl f1)), (p9, .inl (cI, 5, .inl g2))]) C h (c_X8_copy5 l D cI cZ kS vS p5 p8 f1 g1 ) wv_X8_copy rfl ⟨rfl, rfl, rfl, rfl, by decide⟩ ml_RX8_128 [0, 3, 1, 4, 2] rfl (fun _ => rfl) ⟨Nat.le_of_ble_eq_true rfl, Nat.le_of_ble_eq_true rfl⟩ ⟨Nat.le_of_ble_eq_true rfl, Nat.le_of_ble_eq_true rfl⟩ (Nat.le_of_ble_eq_true rfl) hl rfl dX8_layAside_8 (fun u H locs hq h => ?_)
  have h : HS D A s H locs [(p0, .inr (8, [.ref p1, .int pgm, .ref p2, .int rdm, .int rdb, .int stt, .int (nI n), .int bar, .int hrs, .int crd, .ref p3, .ref p4, .ref p5, .ref p6, .ref p7, .int tof, .int tmu, .ref p8, .ref p9, .int bdn, .ref p10, .int snm, .ref p11, .ref p12, .ref p13, .int sdn, .int kcs, .int khr, .int ksn, .ref p14, .ref p15, .ref p16, .ref p17, .long hlg])), (p5, .inl (cI, 5, .inl f1)), (p6, .inl (cI, 5, .inl f2)), (p8, .inl (cI, 5, .inl f1)), (p9, .inl (cI, 5, .inl g2))] := h
  have hq : True := hq
  refine lv_aload_n hx hb dX8_layAside_11 rfl (lv_at hl 0 rfl) ?_
  refine r_get C h fk8 0 13 rfl (by decide) mf_RX8_25 rfl dX8_layAside_12 ?_
  refine lv_aload_n hx hb dX8_layAside_15 rfl (lv_at hl 0 rfl) ?_
  refine r_get C h fk8 0 18 rfl (by decide) mf_RX8_34 rfl dX8_layAside_16 ?_
  refine k_Sv (rest := []) (as := [.ref p6, .ref p9]) (wc := [(p6, .inl (cI, 5, .inl f2)), (p9, .inl (cI, 5, .inl g2))]) (wr := [(p0, .inr (8, [.ref p1, .int pgm, .ref p2, .int rdm, .int rdb, .int stt, .int (nI n), .int bar, .int hrs, .int crd, .ref p3, .ref p4, .ref p5, .ref p6, .ref p7, .int tof, .int tmu, .ref p8, .ref p9, .int bdn, .ref p10, .int snm, .ref p11, .ref p12, .ref p13, .int sdn, .int kcs, .int khr, .int ksn, .ref p14, .ref p15, .ref p16, .ref p17, .long hlg])), (p5, .inl (cI, 5, .inl f1)), (p8, .inl (cI, 5, .inl f1))]) (isC := [2, 4]) (isR := [0, 1, 3]) (w2 := fun (_ : Unit) => [(p0, .inr (8, [.ref p1, .int pgm, .ref p2, .int rdm, .int rdb, .int stt, .int (nI n), .int bar, .int hrs, .int crd, .ref p3, .ref p4, .ref p5, .ref p6, .ref p7, .int tof, .int tmu, .ref p8, .ref p9, .int bdn, .ref p10, .int snm, .ref p11, .ref p12, .ref p13, .int sdn, .int kcs, .int khr, .int ksn, .ref p14, .ref p15, .ref p16, .ref p17, .long hlg])), (p5, .inl (cI, 5, .inl f1)), (p6, .inl (cI, 5, .inl f2)), (p8, .inl (cI, 5, .inl f1)), (p9, .inl (cI, 5, .inl f2))]) C h (c_X8_copy5 l D cI cZ kS vS p6 p9 f2 g2 ) wv_X8_copy rfl ⟨rfl, rfl, rfl, rfl, by decide⟩ ml_RX8_128 [0, 1, 3, 2, 4] rfl (fun _ => rfl) ⟨Nat.le_of_ble_eq_true rfl, Nat.le_of_ble_eq_true rfl⟩ ⟨Nat.le_of_ble_eq_true rfl, Nat.le_of_ble_eq_true rfl⟩ (Nat.le_of_ble_eq_true rfl) hl rfl dX8_layAside_19 (fun u H locs hq h => ?_)
  have h : HS D A s H locs [(p0, .inr (8, [.ref p1, .int pgm, .ref p2, .int rdm, .int rdb, .int stt, .int (nI n), .int bar, .int hrs, .int crd, .ref p3, .ref p4, .ref p5, .ref p6, .ref p7, .int tof, .int tmu, .ref p8, .ref p9, .int bdn, .ref p10, .int snm, .ref p11, .ref p12, .ref p13, .int sdn, .int kcs, .int khr, .int ksn, .ref p14, .ref p15, .ref p16, .ref p17, .long hlg])), (p5, .inl (cI, 5, .inl f1)), (p6, .inl (cI, 5, .inl f2)), (p8, .inl (cI, 5, .inl f1)), (p9, .inl (cI, 5, .inl f2))] := h
  have hq : True := hq
  exact hret () dX8_layAside_22 h (trivial)

set_option maxHeartbeats 4000000 in
set_option maxRecDepth 100000 in
theorem c_X8_layBack (l : Launch) (D : va_G) (cI cZ : ClassId) (kS vS : Nat) (p0 : Nat) (p1 : Nat) (p2 : Nat) (p3 : Nat) (p4 : Nat) (p5 : Nat) (p6 : Nat) (p7 : Nat) (p8 : Nat) (p9 : Nat) (p10 : Nat) (p11 : Nat) (p12 : Nat) (p13 : Nat) (p14 : Nat) (p15 : Nat) (p16 : Nat) (p17 : Nat) (n : Nat) (pgm : Int32) (rdm : Int32) (rdb : Int32) (stt : Int32) (bar : Int32) (hrs : Int32) (crd : Int32) (tof : Int32) (tmu : Int32) (bdn : Int32) (snm : Int32) (sdn : Int32) (kcs : Int32) (khr : Int32) (ksn : Int32) (hlg : Int64) (f1 : Nat → Int32) (f2 : Nat → Int32) (g1 : Nat → Int32) (g2 : Nat → Int32)  : CV l yX8_layBack cX8_layBack 1 D cI cZ kS vS 1 22 0 0 [.ref p0] [(p0, .inr (8, [.ref p1, .int pgm, .ref p2, .int rdm, .int rdb, .int stt, .int (nI n), .int bar, .int hrs, .int crd, .ref p3, .ref p4, .ref p5, .ref p6, .ref p7, .int tof, .int tmu, .ref p8, .ref p9, .int bdn, .ref p10, .int snm, .ref p11, .ref p12, .ref p13, .int sdn, .int kcs, .int khr, .int ksn, .ref p14, .ref p15, .ref p16, .ref p17, .long hlg])), (p8, .inl (cI, 5, .inl f1)), (p9, .inl (cI, 5, .inl f2)), (p5, .inl (cI, 5, .inl g1)), (p6, .inl (cI, 5, .inl g2))] (fun (_ : Unit) => True) (fun (_ : Unit) => [(p0, .inr (8, [.ref p1, .int pgm, .ref p2, .int rdm, .int rdb, .int stt, .int (nI n), .int bar, .int hrs, .int crd, .ref p3, .ref p4, .ref p5, .ref p6, .ref p7, .int tof, .int tmu, .ref p8, .ref p9, .int bdn, .ref p10, .int snm, .ref p11, .ref p12, .ref p13, .int sdn, .int kcs, .int khr, .int ksn, .ref p14, .ref p15, .ref p16, .ref p17, .long hlg])), (p8, .inl (cI, 5, .inl f1)), (p9, .inl (cI, 5, .inl f2)), (p5, .inl (cI, 5, .inl f1)), (p6, .inl (cI, 5, .inl f2))]) := by
  refine CV_intro (by decide) (Nat.le_of_ble_eq_true rfl) ?_
  intro p e s m args below meth c A Q ls C hini h hret hl
  have C : CX p s m args c cX8_layBack 1 RX8 D cI cZ kS vS A := C
  have hx := C.1.1
  have hb := C.1.2.1
  have hl : lv_has ls 1 [(0, .ref p0)] := hl
  refine lv_aload_n hx hb dX8_layBack_0 rfl (lv_at hl 0 rfl) ?_
  refine r_get C h fk8 0 17 rfl (by decide) mf_RX8_31 rfl dX8_layBack_1 ?_
  refine lv_aload_n hx hb dX8_layBack_4 rfl (lv_at hl 0 rfl) ?_
  refine r_get C h fk8 0 12 rfl (by decide) mf_RX8_22 rfl dX8_layBack_5 ?_
  refine k_Sv (rest := []) (as := [.ref p8, .ref p5]) (wc := [(p8, .inl (cI, 5, .inl f1)), (p5, .inl (cI, 5, .inl g1))]) (wr := [(p0, .inr (8, [.ref p1, .int pgm, .ref p2, .int rdm, .int rdb, .int stt, .int (nI n), .int bar, .int hrs, .int crd, .ref p3, .ref p4, .ref p5, .ref p6, .ref p7, .int tof, .int tmu, .ref p8, .ref p9, .int bdn, .ref p10, .int snm, .ref p11, .ref p12, .ref p13, .int sdn, .int kcs, .int khr, .int ksn, .ref p14, .ref p15, .ref p16, .ref p17, .long hlg])), (p9, .inl (cI, 5, .inl f2)), (p6, .inl (cI, 5, .inl g2))]) (isC := [1, 3]) (isR := [0, 2, 4]) (w2 := fun (_ : Unit) => [(p0, .inr (8, [.ref p1, .int pgm, .ref p2, .int rdm, .int rdb, .int stt, .int (nI n), .int bar, .int hrs, .int crd, .ref p3, .ref p4, .ref p5, .ref p6, .ref p7, .int tof, .int tmu, .ref p8, .ref p9, .int bdn, .ref p10, .int snm, .ref p11, .ref p12, .ref p13, .int sdn, .int kcs, .int khr, .int ksn, .ref p14, .ref p15, .ref p16, .ref p17, .long hlg])), (p8, .inl (cI, 5, .inl f1)), (p9, .inl (cI, 5, .inl f2)), (p5, .inl (cI, 5, .inl f1)), (p6, .inl (cI, 5, .inl g2))]) C h (c_X8_copy5 l D cI cZ kS vS p8 p5 f1 g1 ) wv_X8_copy rfl ⟨rfl, rfl, rfl, rfl, by decide⟩ ml_RX8_128 [0, 3, 1, 4, 2] rfl (fun _ => rfl) ⟨Nat.le_of_ble_eq_true rfl, Nat.le_of_ble_eq_true rfl⟩ ⟨Nat.le_of_ble_eq_true rfl, Nat.le_of_ble_eq_true rfl⟩ (Nat.le_of_ble_eq_true rfl) hl rfl dX8_layBack_8 (fun u H locs hq h => ?_)
  have h : HS D A s H locs [(p0, .inr (8, [.ref p1, .int pgm, .ref p2, .int rdm, .int rdb, .int stt, .int (nI n), .int bar, .int hrs, .int crd, .ref p3, .ref p4, .ref p5, .ref p6, .ref p7, .int tof, .int tmu, .ref p8, .ref p9, .int bdn, .ref p10, .int snm, .ref p11, .ref p12, .ref p13, .int sdn, .int kcs, .int khr, .int ksn, .ref p14, .ref p15, .ref p16, .ref p17, .long hlg])), (p8, .inl (cI, 5, .inl f1)), (p9, .inl (cI, 5, .inl f2)), (p5, .inl (cI, 5, .inl f1)), (p6, .inl (cI, 5, .inl g2))] := h
  have hq : True := hq
  refine lv_aload_n hx hb dX8_layBack_11 rfl (lv_at hl 0 rfl) ?_
  refine r_get C h fk8 0 18 rfl (by decide) mf_RX8_34 rfl dX8_layBack_12 ?_
  refine lv_aload_n hx hb dX8_layBack_15 rfl (lv_at hl 0 rfl) ?_
  refine r_get C h fk8 0 13 rfl (by decide) mf_RX8_25 rfl dX8_layBack_16 ?_
  refine k_Sv (rest := []) (as := [.ref p9, .ref p6]) (wc := [(p9, .inl (cI, 5, .inl f2)), (p6, .inl (cI, 5, .inl g2))]) (wr := [(p0, .inr (8, [.ref p1, .int pgm, .ref p2, .int rdm, .int rdb, .int stt, .int (nI n), .int bar, .int hrs, .int crd, .ref p3, .ref p4, .ref p5, .ref p6, .ref p7, .int tof, .int tmu, .ref p8, .ref p9, .int bdn, .ref p10, .int snm, .ref p11, .ref p12, .ref p13, .int sdn, .int kcs, .int khr, .int ksn, .ref p14, .ref p15, .ref p16, .ref p17, .long hlg])), (p8, .inl (cI, 5, .inl f1)), (p5, .inl (cI, 5, .inl f1))]) (isC := [2, 4]) (isR := [0, 1, 3]) (w2 := fun (_ : Unit) => [(p0, .inr (8, [.ref p1, .int pgm, .ref p2, .int rdm, .int rdb, .int stt, .int (nI n), .int bar, .int hrs, .int crd, .ref p3, .ref p4, .ref p5, .ref p6, .ref p7, .int tof, .int tmu, .ref p8, .ref p9, .int bdn, .ref p10, .int snm, .ref p11, .ref p12, .ref p13, .int sdn, .int kcs, .int khr, .int ksn, .ref p14, .ref p15, .ref p16, .ref p17, .long hlg])), (p8, .inl (cI, 5, .inl f1)), (p9, .inl (cI, 5, .inl f2)), (p5, .inl (cI, 5, .inl f1)), (p6, .inl (cI, 5, .inl f2))]) C h (c_X8_copy5 l D cI cZ kS vS p9 p6 f2 g2 ) wv_X8_copy rfl ⟨rfl, rfl, rfl, rfl, by decide⟩ ml_RX8_128 [0, 1, 3, 2, 4] rfl (fun _ => rfl) ⟨Nat.le_of_ble_eq_true rfl, Nat.le_of_ble_eq_true rfl⟩ ⟨Nat.le_of_ble_eq_true rfl, Nat.le_of_ble_eq_true rfl⟩ (Nat.le_of_ble_eq_true rfl) hl rfl dX8_layBack_19 (fun u H locs hq h => ?_)
  have h : HS D A s H locs [(p0, .inr (8, [.ref p1, .int pgm, .ref p2, .int rdm, .int rdb, .int stt, .int (nI n), .int bar, .int hrs, .int crd, .ref p3, .ref p4, .ref p5, .ref p6, .ref p7, .int tof, .int tmu, .ref p8, .ref p9, .int bdn, .ref p10, .int snm, .ref p11, .ref p12, .ref p13, .int sdn, .int kcs, .int khr, .int ksn, .ref p14, .ref p15, .ref p16, .ref p17, .long hlg])), (p8, .inl (cI, 5, .inl f1)), (p9, .inl (cI, 5, .inl f2)), (p5, .inl (cI, 5, .inl f1)), (p6, .inl (cI, 5, .inl f2))] := h
  have hq : True := hq
  exact hret () dX8_layBack_22 h (trivial)

set_option maxHeartbeats 4000000 in
set_option maxRecDepth 100000 in
theorem c_X8_placeOf (l : Launch) (D : va_G) (cI cZ : ClassId) (kS vS : Nat) (p0 : Nat) (p1 : Nat) (p2 : Nat) (p3 : Nat) (p4 : Nat) (p5 : Nat) (p6 : Nat) (p7 : Nat) (p8 : Nat) (p9 : Nat) (p10 : Nat) (p11 : Nat) (p12 : Nat) (p13 : Nat) (p14 : Nat) (p15 : Nat) (p16 : Nat) (p17 : Nat) (n : Nat) (pgm : Int32) (rdm : Int32) (rdb : Int32) (stt : Int32) (bar : Int32) (hrs : Int32) (crd : Int32) (tof : Int32) (tmu : Int32) (bdn : Int32) (snm : Int32) (sdn : Int32) (kcs : Int32) (khr : Int32) (ksn : Int32) (hlg : Int64) (ρ : Nat → Nat) (q : Nat) (hn2 : 2 ≤ n) (hn5 : n ≤ 5) (hpm : PM n ρ) (hq : q < n) : CI l yX8_placeOf cX8_placeOf 4 .int D cI cZ kS vS 0 0 0 0 [.ref p0, .int (nI (ρ q))] [(p0, .inr (8, [.ref p1, .int pgm, .ref p2, .int rdm, .int rdb, .int stt, .int (nI n), .int bar, .int hrs, .int crd, .ref p3, .ref p4, .ref p5, .ref p6, .ref p7, .int tof, .int tmu, .ref p8, .ref p9, .int bdn, .ref p10, .int snm, .ref p11, .ref p12, .ref p13, .int sdn, .int kcs, .int khr, .int ksn, .ref p14, .ref p15, .ref p16, .ref p17, .long hlg])), (p6, .inl (cI, 5, .inl (ro ρ)))] (fun (r : Int32) (_ : Unit) => r = nI q) (fun (_ : Unit) => [(p0, .inr (8, [.ref p1, .int pgm, .ref p2, .int rdm, .int rdb, .int stt, .int (nI n), .int bar, .int hrs, .int crd, .ref p3, .ref p4, .ref p5, .ref p6, .ref p7, .int tof, .int tmu, .ref p8, .ref p9, .int bdn, .ref p10, .int snm, .ref p11, .ref p12, .ref p13, .int sdn, .int kcs, .int khr, .int ksn, .ref p14, .ref p15, .ref p16, .ref p17, .long hlg])), (p6, .inl (cI, 5, .inl (ro ρ)))]) := by
  refine CI_intro (by decide) (Nat.le_of_ble_eq_true rfl) ?_
  intro p e s m args below meth c A Q ls C h hret hl
  have C : CX p s m args c cX8_placeOf 4 RX8 D cI cZ kS vS A := C
  have hx := C.1.1
  have hb := C.1.2.1
  have hl : lv_has ls 4 [(0, .ref p0), (1, .int (nI (ρ q)))] := hl
  have r0 := hpm.1 q hq
  refine lv_iconst (v := (-1)) hx hb dX8_placeOf_0 (by decide) ?_
  refine lv_istore_n (lv' := [(2, .int (-1)), (0, .ref p0), (1, .int (nI (ρ q)))]) hx hb dX8_placeOf_1 rfl hl (by decide) rfl (fun ls hl => ?_)
  refine lv_iconst (v := 0) hx hb dX8_placeOf_2 (by decide) ?_
  refine lv_istore_n (lv' := [(3, .int 0), (2, .int (-1)), (0, .ref p0), (1, .int (nI (ρ q)))]) hx hb dX8_placeOf_3 rfl hl (by decide) rfl (fun ls hl => ?_)
  have L4 : ∀ (fu : Nat) (i : Nat), (n - i) < fu → (hi : i ≤ n) → ∀ (H : Heap) (locs : List Loc) (ls : Array Slot), HS D A s H locs [(p0, .inr (8, [.ref p1, .int pgm, .ref p2, .int rdm, .int rdb, .int stt, .int (nI n), .int bar, .int hrs, .int crd, .ref p3, .ref p4, .ref p5, .ref p6, .ref p7, .int tof, .int tmu, .ref p8, .ref p9, .int bdn, .ref p10, .int snm, .ref p11, .ref p12, .ref p13, .int sdn, .int kcs, .int khr, .int ksn, .ref p14, .ref p15, .ref p16, .ref p17, .long hlg])), (p6, .inl (cI, 5, .inl (ro ρ)))] → lv_has ls 4 [(0, .ref p0), (1, .int (nI (ρ q))), (2, .int (pmo q i)), (3, .int (nI i))] → W p l e (rmO 0 0 0 0) s m args below meth c H locs 0 0 Q (F0 m 4 ls []) := by
    intro fu
    induction fu with
    | zero => intro i hfu; exact absurd hfu (Nat.not_lt_zero _)
    | succ fu ih4 =>
      intro i hfu hi H locs ls h hl
      refine lv_iload_n hx hb dX8_placeOf_4 rfl (lv_at hl 3 rfl) ?_
      refine lv_aload_n hx hb dX8_placeOf_5 rfl (lv_at hl 0 rfl) ?_
      refine r_get C h fk8 0 6 rfl (by decide) mf_RX8_99 rfl dX8_placeOf_6 ?_
      refine lv_icmp_ge (tgt := 34) hx hb dX8_placeOf_9 (by decide) (fun c_9 => ?_) (fun c_9 => ?_)
      · skip
        have c_9 := (jle (a := n) (b := i) (by omega) (by omega)).mp c_9
        obtain rfl : n = i := by omega
        have hl : lv_has ls 4 [(0, .ref p0), (1, .int (nI (ρ q))), (2, .int (nI q)), (3, .int (nI n))] := by rw [show nI q = pmo q n from (if_pos hq).symm]; exact hl
        refine lv_iload_n hx hb dX8_placeOf_34 rfl (lv_at hl 2 rfl) ?_
        exact hret (r := nI q) () dX8_placeOf_35 h (rfl) (rfl)
      · skip
        have c_9 : ¬ n ≤ i := fun z => c_9 ((jle (a := n) (b := i) (by omega) (by omega)).mpr z)
        have hlt : i < n := by omega
        have r1 := hpm.1 i hlt
        refine lv_aload_n hx hb dX8_placeOf_12 rfl (lv_at hl 0 rfl) ?_
        refine r_get C h fk8 0 13 rfl (by decide) mf_RX8_25 rfl dX8_placeOf_13 ?_
        refine lv_iload_n hx hb dX8_placeOf_16 rfl (lv_at hl 3 rfl) ?_
        refine r_ld C h 1 rfl i (rfl) (by omega) (by decide) (x := nI (ρ i)) (rfl) dX8_placeOf_17 ?_
        refine lv_iload_n hx hb dX8_placeOf_18 rfl (lv_at hl 1 rfl) ?_
        refine lv_icmp_ne (tgt := 26) hx hb dX8_placeOf_19 (by decide) (fun c_19 => ?_) (fun c_19 => ?_)
        · skip
          have c_19 : ¬ (ρ i) = (ρ q) := fun z => c_19 ((jeq (a := (ρ i)) (b := (ρ q)) (by omega) (by omega)).mpr z)
          have ep : pmo q i = pmo q (i + 1) := pmo_n (fun z => c_19 (by rw [z]))
          refine lv_iload_n hx hb dX8_placeOf_26 rfl (lv_at hl 2 rfl) ?_
          refine r_top (y := pmo q (i + 1)) (ep) ?_
          refine lv_istore_n (lv' := [(2, .int (pmo q (i + 1))), (0, .ref p0), (1, .int (nI (ρ q))), (3, .int (nI i))]) hx hb dX8_placeOf_27 rfl hl (by decide) rfl (fun ls hl => ?_)
          refine lv_iinc (v := nI (i + 1)) (lv' := [(3, .int (nI (i + 1))), (2, .int (pmo q (i + 1))), (0, .ref p0), (1, .int (nI (ρ q)))]) hx hb dX8_placeOf_28 hl (k := 3) rfl (nI_1 i) (by decide) rfl (fun ls hl => ?_)
          refine lv_goto (tgt := 4) hx hb dX8_placeOf_31 (by decide) ?_
          exact ih4  (i + 1) (by omega) (by first | assumption | omega) _ _ _ h (lv_sub hl [2, 3, 1, 0] rfl)
        · skip
          have c_19 := (jeq (a := (ρ i)) (b := (ρ q)) (by omega) (by omega)).mp c_19
          have ep : nI i = pmo q (i + 1) := by rw [hpm.2.1 _ _ hlt hq c_19]; exact pmo_e q
          refine lv_iload_n hx hb dX8_placeOf_22 rfl (lv_at hl 3 rfl) ?_
          refine lv_goto (tgt := 27) hx hb dX8_placeOf_23 (by decide) ?_
          refine r_top (y := pmo q (i + 1)) (ep) ?_
          refine lv_istore_n (lv' := [(2, .int (pmo q (i + 1))), (0, .ref p0), (1, .int (nI (ρ q))), (3, .int (nI i))]) hx hb dX8_placeOf_27 rfl hl (by decide) rfl (fun ls hl => ?_)
          refine lv_iinc (v := nI (i + 1)) (lv' := [(3, .int (nI (i + 1))), (2, .int (pmo q (i + 1))), (0, .ref p0), (1, .int (nI (ρ q)))]) hx hb dX8_placeOf_28 hl (k := 3) rfl (nI_1 i) (by decide) rfl (fun ls hl => ?_)
          refine lv_goto (tgt := 4) hx hb dX8_placeOf_31 (by decide) ?_
          exact ih4  (i + 1) (by omega) (by first | assumption | omega) _ _ _ h (lv_sub hl [2, 3, 1, 0] rfl)
  have hl : lv_has ls 4 [(3, .int 0), (2, .int (pmo q 0)), (0, .ref p0), (1, .int (nI (ρ q)))] := by rw [pmo_0]; exact hl
  exact L4 ((n - 0) + 1) 0 (by omega) (by first | assumption | omega) _ _ _ h (lv_sub hl [2, 3, 1, 0] rfl)
end
section
set_option maxHeartbeats 4000000 in
set_option maxRecDepth 100000 in
theorem c_X8_kindBy (l : Launch) (D : va_G) (cI cZ : ClassId) (kS vS : Nat) (cd : Nat) (hc : cd < 127) : CI l yX8_kindBy cX8_kindBy 1 .int D cI cZ kS vS 0 0 0 0 [.int (nI cd)] [] (fun (r : Int32) (_ : Unit) => r = kb cd) (fun (_ : Unit) => []) := by
  refine CI_intro (by decide) (Nat.le_of_ble_eq_true rfl) ?_
  intro p e s m args below meth c A Q ls C h hret hl
  have C : CX p s m args c cX8_kindBy 1 RX8 D cI cZ kS vS A := C
  have hx := C.1.1
  have hb := C.1.2.1
  have hl : lv_has ls 1 [(0, .int (nI cd))] := hl
  refine lv_iload_n hx hb dX8_kindBy_0 rfl (lv_at hl 0 rfl) ?_
  refine lv_bipush (v := 114) hx hb dX8_kindBy_1 (by decide) ?_
  refine lv_icmp_ne (tgt := 10) hx hb dX8_kindBy_3 (by decide) (fun c_3 => ?_) (fun c_3 => ?_)
  · skip
    have c_3 : ¬ cd = 114 := fun z => c_3 ((jeq (a := cd) (b := 114) (by omega) (by omega)).mpr z)
    refine lv_iload_n hx hb dX8_kindBy_10 rfl (lv_at hl 0 rfl) ?_
    refine lv_bipush (v := 102) hx hb dX8_kindBy_11 (by decide) ?_
    refine lv_icmp_ne (tgt := 20) hx hb dX8_kindBy_13 (by decide) (fun c_13 => ?_) (fun c_13 => ?_)
    · skip
      have c_13 : ¬ cd = 102 := fun z => c_13 ((jeq (a := cd) (b := 102) (by omega) (by omega)).mpr z)
      refine lv_iload_n hx hb dX8_kindBy_20 rfl (lv_at hl 0 rfl) ?_
      refine lv_bipush (v := 98) hx hb dX8_kindBy_21 (by decide) ?_
      refine lv_icmp_ne (tgt := 30) hx hb dX8_kindBy_23 (by decide) (fun c_23 => ?_) (fun c_23 => ?_)
      · skip
        have c_23 : ¬ cd = 98 := fun z => c_23 ((jeq (a := cd) (b := 98) (by omega) (by omega)).mpr z)
        refine lv_iload_n hx hb dX8_kindBy_30 rfl (lv_at hl 0 rfl) ?_
        refine lv_bipush (v := 111) hx hb dX8_kindBy_31 (by decide) ?_
        refine lv_icmp_ne (tgt := 40) hx hb dX8_kindBy_33 (by decide) (fun c_33 => ?_) (fun c_33 => ?_)
        · skip
          have c_33 : ¬ cd = 111 := fun z => c_33 ((jeq (a := cd) (b := 111) (by omega) (by omega)).mpr z)
          refine lv_iload_n hx hb dX8_kindBy_40 rfl (lv_at hl 0 rfl) ?_
          refine lv_bipush (v := 116) hx hb dX8_kindBy_41 (by decide) ?_
          refine lv_icmp_ne (tgt := 50) hx hb dX8_kindBy_43 (by decide) (fun c_43 => ?_) (fun c_43 => ?_)
          · skip
            have c_43 : ¬ cd = 116 := fun z => c_43 ((jeq (a := cd) (b := 116) (by omega) (by omega)).mpr z)
            refine lv_iconst (v := (-1)) hx hb dX8_kindBy_50 (by decide) ?_
            exact hret (r := (-1)) () dX8_kindBy_51 h (rfl) (by simp [kb, c_3, c_13, c_23, c_33, c_43])
          · skip
            have c_43 := (jeq (a := cd) (b := 116) (by omega) (by omega)).mp c_43
            refine lv_iconst (v := 4) hx hb dX8_kindBy_46 (by decide) ?_
            refine lv_goto (tgt := 51) hx hb dX8_kindBy_47 (by decide) ?_
            exact hret (r := 4) () dX8_kindBy_51 h (rfl) (by simp [kb, c_3, c_13, c_23, c_33, c_43])
        · skip
          have c_33 := (jeq (a := cd) (b := 111) (by omega) (by omega)).mp c_33
          refine lv_iconst (v := 3) hx hb dX8_kindBy_36 (by decide) ?_
          refine lv_goto (tgt := 51) hx hb dX8_kindBy_37 (by decide) ?_
          exact hret (r := 3) () dX8_kindBy_51 h (rfl) (by simp [kb, c_3, c_13, c_23, c_33])
      · skip
        have c_23 := (jeq (a := cd) (b := 98) (by omega) (by omega)).mp c_23
        refine lv_iconst (v := 2) hx hb dX8_kindBy_26 (by decide) ?_
        refine lv_goto (tgt := 51) hx hb dX8_kindBy_27 (by decide) ?_
        exact hret (r := 2) () dX8_kindBy_51 h (rfl) (by simp [kb, c_3, c_13, c_23])
    · skip
      have c_13 := (jeq (a := cd) (b := 102) (by omega) (by omega)).mp c_13
      refine lv_iconst (v := 1) hx hb dX8_kindBy_16 (by decide) ?_
      refine lv_goto (tgt := 51) hx hb dX8_kindBy_17 (by decide) ?_
      exact hret (r := 1) () dX8_kindBy_51 h (rfl) (by simp [kb, c_3, c_13])
  · skip
    have c_3 := (jeq (a := cd) (b := 114) (by omega) (by omega)).mp c_3
    refine lv_iconst (v := 0) hx hb dX8_kindBy_6 (by decide) ?_
    refine lv_goto (tgt := 51) hx hb dX8_kindBy_7 (by decide) ?_
    exact hret (r := 0) () dX8_kindBy_51 h (rfl) (by simp [kb, c_3])

set_option maxHeartbeats 4000000 in
set_option maxRecDepth 100000 in
theorem c_X8_go (l : Launch) (D : va_G) (cI cZ : ClassId) (kS vS : Nat) (p0 : Nat) (p1 : Nat) (p2 : Nat) (p3 : Nat) (p4 : Nat) (p5 : Nat) (p6 : Nat) (p7 : Nat) (p8 : Nat) (p9 : Nat) (p10 : Nat) (p11 : Nat) (p12 : Nat) (p13 : Nat) (p14 : Nat) (p15 : Nat) (p16 : Nat) (p17 : Nat) (n : Nat) (pgm : Int32) (rdb : Int32) (bar : Int32) (hrs : Int32) (crd : Int32) (tof : Int32) (tmu : Int32) (bdn : Int32) (snm : Int32) (sdn : Int32) (kcs : Int32) (khr : Int32) (ksn : Int32) (hlg : Int64) (st : Nat) (rm : Nat) (cd : Nat) (rd : Nat → Int32) (hst : st ≤ 5) (hrm : rm ≤ 6) (hr4 : st ≤ 2 → rm ≤ 4) (hc : cd < 127) : CI l yX8_go cX8_go 4 .boolean D cI cZ kS vS 1 25 0 0 [.ref p0, .int (nI cd)] [(p0, .inr (8, [.ref p1, .int pgm, .ref p2, .int (nI rm), .int rdb, .int (nI st), .int (nI n), .int bar, .int hrs, .int crd, .ref p3, .ref p4, .ref p5, .ref p6, .ref p7, .int tof, .int tmu, .ref p8, .ref p9, .int bdn, .ref p10, .int snm, .ref p11, .ref p12, .ref p13, .int sdn, .int kcs, .int khr, .int ksn, .ref p14, .ref p15, .ref p16, .ref p17, .long hlg])), (p2, .inl (cI, 15, .inl rd))] (fun (r : Int32) (_ : Unit) => r = bI (gfit st rm cd)) (fun (_ : Unit) => [(p0, .inr (8, [.ref p1, .int pgm, .ref p2, .int (nI (grm st rm)), .int (grb st cd rdb), .int (nI (gst st cd)), .int (nI n), .int bar, .int hrs, .int crd, .ref p3, .ref p4, .ref p5, .ref p6, .ref p7, .int tof, .int tmu, .ref p8, .ref p9, .int bdn, .ref p10, .int snm, .ref p11, .ref p12, .ref p13, .int sdn, .int kcs, .int khr, .int ksn, .ref p14, .ref p15, .ref p16, .ref p17, .long hlg])), (p2, .inl (cI, 15, .inl (grd st rm cd rd)))]) := by
  refine CI_intro (by decide) (Nat.le_of_ble_eq_true rfl) ?_
  intro p e s m args below meth c A Q ls C h hret hl
  have C : CX p s m args c cX8_go 4 RX8 D cI cZ kS vS A := C
  have hx := C.1.1
  have hb := C.1.2.1
  have hl : lv_has ls 4 [(0, .ref p0), (1, .int (nI cd))] := hl
  refine lv_iload_n hx hb dX8_go_0 rfl (lv_at hl 1 rfl) ?_
  refine lv_bipush (v := 48) hx hb dX8_go_1 (by decide) ?_
  refine lv_isub hx hb dX8_go_3 ?_
  refine lv_istore_n (lv' := [(2, .int ((nI cd) - 48)), (0, .ref p0), (1, .int (nI cd))]) hx hb dX8_go_4 rfl hl (by decide) rfl (fun ls hl => ?_)
  refine lv_aload_n hx hb dX8_go_5 rfl (lv_at hl 1 rfl) ?_
  refine r_get C h fk8 0 5 rfl (by decide) mf_RX8_74 rfl dX8_go_6 ?_
  refine lv_istore_n (lv' := [(3, .int (nI st)), (2, .int ((nI cd) - 48)), (0, .ref p0), (1, .int (nI cd))]) hx hb dX8_go_9 rfl hl (by decide) rfl (fun ls hl => ?_)
  refine lv_aload_n hx hb dX8_go_10 rfl (lv_at hl 2 rfl) ?_
  refine lv_dup hx hb dX8_go_11 rfl ?_
  refine r_get C h fk8 0 5 rfl (by decide) mf_RX8_74 rfl dX8_go_12 ?_
  refine lv_iconst (v := 1) hx hb dX8_go_15 (by decide) ?_
  refine lv_iadd hx hb dX8_go_16 ?_
  refine r_top (y := nI (st + 1)) (nI_add st 1) ?_
  refine r_put C h fk8 0 5 rfl (by decide) mf_RX8_74 rfl (rfl) rfl (Nat.le_of_ble_eq_true rfl) (ws' := [(p0, .inr (8, [.ref p1, .int pgm, .ref p2, .int (nI rm), .int rdb, .int (nI (st + 1)), .int (nI n), .int bar, .int hrs, .int crd, .ref p3, .ref p4, .ref p5, .ref p6, .ref p7, .int tof, .int tmu, .ref p8, .ref p9, .int bdn, .ref p10, .int snm, .ref p11, .ref p12, .ref p13, .int sdn, .int kcs, .int khr, .int ksn, .ref p14, .ref p15, .ref p16, .ref p17, .long hlg])), (p2, .inl (cI, 15, .inl rd))]) rfl dX8_go_17 (fun H locs h => ?_)
  refine lv_iload_n hx hb dX8_go_20 rfl (lv_at hl 0 rfl) ?_
  by_cases k_21_0 : nI st = 0
  · skip
    refine r_top (y := 0) k_21_0 ?_
    have e0 : st = 0 := (jeq (a := st) (b := 0) (by omega) (by omega)).mp k_21_0
    have hr5 := hr4 (by omega)
    refine lv_tableIn (tgt := 56) hx hb dX8_go_21 (by decide) (by decide) rfl (by decide) ?_
    refine lv_aload_n hx hb dX8_go_56 rfl (lv_at hl 2 rfl) ?_
    refine r_get C h fk8 0 2 rfl (by decide) mf_RX8_13 rfl dX8_go_57 ?_
    refine lv_iconst (v := 3) hx hb dX8_go_60 (by decide) ?_
    refine lv_aload_n hx hb dX8_go_61 rfl (lv_at hl 2 rfl) ?_
    refine r_get C h fk8 0 3 rfl (by decide) mf_RX8_77 rfl dX8_go_62 ?_
    refine lv_imul hx hb dX8_go_65 ?_
    refine r_top (y := nI (3 * rm)) (pk_mul 3 rm) ?_
    refine lv_iload_n hx hb dX8_go_66 rfl (lv_at hl 3 rfl) ?_
    refine k_Si (rest := [.int (nI (3 * rm)), .ref p2]) (as := [.int (nI cd)]) (wc := []) (wr := [(p0, .inr (8, [.ref p1, .int pgm, .ref p2, .int (nI rm), .int rdb, .int (nI (st + 1)), .int (nI n), .int bar, .int hrs, .int crd, .ref p3, .ref p4, .ref p5, .ref p6, .ref p7, .int tof, .int tmu, .ref p8, .ref p9, .int bdn, .ref p10, .int snm, .ref p11, .ref p12, .ref p13, .int sdn, .int kcs, .int khr, .int ksn, .ref p14, .ref p15, .ref p16, .ref p17, .long hlg])), (p2, .inl (cI, 15, .inl rd))]) (isC := []) (isR := [0, 1]) (w2 := fun (_ : Unit) => [(p0, .inr (8, [.ref p1, .int pgm, .ref p2, .int (nI rm), .int rdb, .int (nI (st + 1)), .int (nI n), .int bar, .int hrs, .int crd, .ref p3, .ref p4, .ref p5, .ref p6, .ref p7, .int tof, .int tmu, .ref p8, .ref p9, .int bdn, .ref p10, .int snm, .ref p11, .ref p12, .ref p13, .int sdn, .int kcs, .int khr, .int ksn, .ref p14, .ref p15, .ref p16, .ref p17, .long hlg])), (p2, .inl (cI, 15, .inl rd))]) C h (c_X8_kindBy l D cI cZ kS vS cd hc) wv_X8_kindBy rfl ⟨rfl, rfl, rfl, rfl, by decide⟩ ml_RX8_80 [0, 1] rfl (fun _ => rfl) ⟨Nat.le_of_ble_eq_true rfl, Nat.le_of_ble_eq_true rfl⟩ ⟨Nat.le_of_ble_eq_true rfl, Nat.le_of_ble_eq_true rfl⟩ (Nat.le_of_ble_eq_true rfl) hl rfl dX8_go_67 (fun r u H locs hq h => ?_)
    have h : HS D A s H locs [(p0, .inr (8, [.ref p1, .int pgm, .ref p2, .int (nI rm), .int rdb, .int (nI (st + 1)), .int (nI n), .int bar, .int hrs, .int crd, .ref p3, .ref p4, .ref p5, .ref p6, .ref p7, .int tof, .int tmu, .ref p8, .ref p9, .int bdn, .ref p10, .int snm, .ref p11, .ref p12, .ref p13, .int sdn, .int kcs, .int khr, .int ksn, .ref p14, .ref p15, .ref p16, .ref p17, .long hlg])), (p2, .inl (cI, 15, .inl rd))] := h
    have hq : r = kb cd := hq
    have hq := hq.symm
    subst hq
    refine r_st C h 1 rfl (3 * rm) (rfl) (by omega) (by decide) (g := upd rd (3 * rm) (kb cd)) (fun _ _ => rfl) (ws' := [(p0, .inr (8, [.ref p1, .int pgm, .ref p2, .int (nI rm), .int rdb, .int (nI (st + 1)), .int (nI n), .int bar, .int hrs, .int crd, .ref p3, .ref p4, .ref p5, .ref p6, .ref p7, .int tof, .int tmu, .ref p8, .ref p9, .int bdn, .ref p10, .int snm, .ref p11, .ref p12, .ref p13, .int sdn, .int kcs, .int khr, .int ksn, .ref p14, .ref p15, .ref p16, .ref p17, .long hlg])), (p2, .inl (cI, 15, .inl (upd rd (3 * rm) (kb cd))))]) rfl dX8_go_70 (fun H locs h => ?_)
    refine lv_iload_n hx hb dX8_go_71 rfl (lv_at hl 3 rfl) ?_
    refine k_Si (rest := []) (as := [.int (nI cd)]) (wc := []) (wr := [(p0, .inr (8, [.ref p1, .int pgm, .ref p2, .int (nI rm), .int rdb, .int (nI (st + 1)), .int (nI n), .int bar, .int hrs, .int crd, .ref p3, .ref p4, .ref p5, .ref p6, .ref p7, .int tof, .int tmu, .ref p8, .ref p9, .int bdn, .ref p10, .int snm, .ref p11, .ref p12, .ref p13, .int sdn, .int kcs, .int khr, .int ksn, .ref p14, .ref p15, .ref p16, .ref p17, .long hlg])), (p2, .inl (cI, 15, .inl (upd rd (3 * rm) (kb cd))))]) (isC := []) (isR := [0, 1]) (w2 := fun (_ : Unit) => [(p0, .inr (8, [.ref p1, .int pgm, .ref p2, .int (nI rm), .int rdb, .int (nI (st + 1)), .int (nI n), .int bar, .int hrs, .int crd, .ref p3, .ref p4, .ref p5, .ref p6, .ref p7, .int tof, .int tmu, .ref p8, .ref p9, .int bdn, .ref p10, .int snm, .ref p11, .ref p12, .ref p13, .int sdn, .int kcs, .int khr, .int ksn, .ref p14, .ref p15, .ref p16, .ref p17, .long hlg])), (p2, .inl (cI, 15, .inl (upd rd (3 * rm) (kb cd))))]) C h (c_X8_kindBy l D cI cZ kS vS cd hc) wv_X8_kindBy rfl ⟨rfl, rfl, rfl, rfl, by decide⟩ ml_RX8_80 [0, 1] rfl (fun _ => rfl) ⟨Nat.le_of_ble_eq_true rfl, Nat.le_of_ble_eq_true rfl⟩ ⟨Nat.le_of_ble_eq_true rfl, Nat.le_of_ble_eq_true rfl⟩ (Nat.le_of_ble_eq_true rfl) hl rfl dX8_go_72 (fun r u H locs hq h => ?_)
    have h : HS D A s H locs [(p0, .inr (8, [.ref p1, .int pgm, .ref p2, .int (nI rm), .int rdb, .int (nI (st + 1)), .int (nI n), .int bar, .int hrs, .int crd, .ref p3, .ref p4, .ref p5, .ref p6, .ref p7, .int tof, .int tmu, .ref p8, .ref p9, .int bdn, .ref p10, .int snm, .ref p11, .ref p12, .ref p13, .int sdn, .int kcs, .int khr, .int ksn, .ref p14, .ref p15, .ref p16, .ref p17, .long hlg])), (p2, .inl (cI, 15, .inl (upd rd (3 * rm) (kb cd))))] := h
    have hq : r = kb cd := hq
    have hq := hq.symm
    subst hq
    refine lv_iconst (v := (-1)) hx hb dX8_go_75 (by decide) ?_
    refine lv_icmp_eq (tgt := 83) hx hb dX8_go_76 (by decide) (fun c_76 => ?_) (fun c_76 => ?_)
    · skip
      refine lv_iconst (v := 0) hx hb dX8_go_83 (by decide) ?_
      have ef : (nI (st + 1)) = (nI (gst st cd)) := by rw [e0]; rfl
      have h : HS D A s H locs [(p0, .inr (8, [.ref p1, .int pgm, .ref p2, .int (nI rm), .int rdb, .int (nI (gst st cd)), .int (nI n), .int bar, .int hrs, .int crd, .ref p3, .ref p4, .ref p5, .ref p6, .ref p7, .int tof, .int tmu, .ref p8, .ref p9, .int bdn, .ref p10, .int snm, .ref p11, .ref p12, .ref p13, .int sdn, .int kcs, .int khr, .int ksn, .ref p14, .ref p15, .ref p16, .ref p17, .long hlg])), (p2, .inl (cI, 15, .inl (upd rd (3 * rm) (kb cd))))] := by rw [← ef]; exact h
      have ef : (nI rm) = (nI (grm st rm)) := by rw [e0]; rfl
      have h : HS D A s H locs [(p0, .inr (8, [.ref p1, .int pgm, .ref p2, .int (nI (grm st rm)), .int rdb, .int (nI (gst st cd)), .int (nI n), .int bar, .int hrs, .int crd, .ref p3, .ref p4, .ref p5, .ref p6, .ref p7, .int tof, .int tmu, .ref p8, .ref p9, .int bdn, .ref p10, .int snm, .ref p11, .ref p12, .ref p13, .int sdn, .int kcs, .int khr, .int ksn, .ref p14, .ref p15, .ref p16, .ref p17, .long hlg])), (p2, .inl (cI, 15, .inl (upd rd (3 * rm) (kb cd))))] := by rw [← ef]; exact h
      have ef : rdb = (grb st cd rdb) := by rw [e0]; rfl
      have h : HS D A s H locs [(p0, .inr (8, [.ref p1, .int pgm, .ref p2, .int (nI (grm st rm)), .int (grb st cd rdb), .int (nI (gst st cd)), .int (nI n), .int bar, .int hrs, .int crd, .ref p3, .ref p4, .ref p5, .ref p6, .ref p7, .int tof, .int tmu, .ref p8, .ref p9, .int bdn, .ref p10, .int snm, .ref p11, .ref p12, .ref p13, .int sdn, .int kcs, .int khr, .int ksn, .ref p14, .ref p15, .ref p16, .ref p17, .long hlg])), (p2, .inl (cI, 15, .inl (upd rd (3 * rm) (kb cd))))] := by rw [← ef]; exact h
      have h := h.arr 1 (g := grd st rm cd rd) rfl (fun j _ => by rw [e0]; rfl) rfl
      exact hret (r := 0) () dX8_go_84 h (rfl) (by rw [e0]; rw [show gfit 0 rm cd = !decide (kb cd = -1) from rfl, decide_eq_true c_76]; rfl)
    · skip
      refine lv_iconst (v := 1) hx hb dX8_go_79 (by decide) ?_
      refine lv_goto (tgt := 84) hx hb dX8_go_80 (by decide) ?_
      have ef : (nI (st + 1)) = (nI (gst st cd)) := by rw [e0]; rfl
      have h : HS D A s H locs [(p0, .inr (8, [.ref p1, .int pgm, .ref p2, .int (nI rm), .int rdb, .int (nI (gst st cd)), .int (nI n), .int bar, .int hrs, .int crd, .ref p3, .ref p4, .ref p5, .ref p6, .ref p7, .int tof, .int tmu, .ref p8, .ref p9, .int bdn, .ref p10, .int snm, .ref p11, .ref p12, .ref p13, .int sdn, .int kcs, .int khr, .int ksn, .ref p14, .ref p15, .ref p16, .ref p17, .long hlg])), (p2, .inl (cI, 15, .inl (upd rd (3 * rm) (kb cd))))] := by rw [← ef]; exact h
      have ef : (nI rm) = (nI (grm st rm)) := by rw [e0]; rfl
      have h : HS D A s H locs [(p0, .inr (8, [.ref p1, .int pgm, .ref p2, .int (nI (grm st rm)), .int rdb, .int (nI (gst st cd)), .int (nI n), .int bar, .int hrs, .int crd, .ref p3, .ref p4, .ref p5, .ref p6, .ref p7, .int tof, .int tmu, .ref p8, .ref p9, .int bdn, .ref p10, .int snm, .ref p11, .ref p12, .ref p13, .int sdn, .int kcs, .int khr, .int ksn, .ref p14, .ref p15, .ref p16, .ref p17, .long hlg])), (p2, .inl (cI, 15, .inl (upd rd (3 * rm) (kb cd))))] := by rw [← ef]; exact h
      have ef : rdb = (grb st cd rdb) := by rw [e0]; rfl
      have h : HS D A s H locs [(p0, .inr (8, [.ref p1, .int pgm, .ref p2, .int (nI (grm st rm)), .int (grb st cd rdb), .int (nI (gst st cd)), .int (nI n), .int bar, .int hrs, .int crd, .ref p3, .ref p4, .ref p5, .ref p6, .ref p7, .int tof, .int tmu, .ref p8, .ref p9, .int bdn, .ref p10, .int snm, .ref p11, .ref p12, .ref p13, .int sdn, .int kcs, .int khr, .int ksn, .ref p14, .ref p15, .ref p16, .ref p17, .long hlg])), (p2, .inl (cI, 15, .inl (upd rd (3 * rm) (kb cd))))] := by rw [← ef]; exact h
      have h := h.arr 1 (g := grd st rm cd rd) rfl (fun j _ => by rw [e0]; rfl) rfl
      exact hret (r := 1) () dX8_go_84 h (rfl) (by rw [e0]; rw [show gfit 0 rm cd = !decide (kb cd = -1) from rfl, decide_eq_false c_76]; rfl)
  · skip
    by_cases k_21_1 : nI st = 1
    · skip
      refine r_top (y := 1) k_21_1 ?_
      have e0 : st = 1 := (jeq (a := st) (b := 1) (by omega) (by omega)).mp k_21_1
      have hr5 := hr4 (by omega)
      refine lv_tableIn (tgt := 85) hx hb dX8_go_21 (by decide) (by decide) rfl (by decide) ?_
      refine lv_aload_n hx hb dX8_go_85 rfl (lv_at hl 2 rfl) ?_
      refine r_get C h fk8 0 2 rfl (by decide) mf_RX8_13 rfl dX8_go_86 ?_
      refine lv_iconst (v := 3) hx hb dX8_go_89 (by decide) ?_
      refine lv_aload_n hx hb dX8_go_90 rfl (lv_at hl 2 rfl) ?_
      refine r_get C h fk8 0 3 rfl (by decide) mf_RX8_77 rfl dX8_go_91 ?_
      refine lv_imul hx hb dX8_go_94 ?_
      refine r_top (y := nI (3 * rm)) (pk_mul 3 rm) ?_
      refine lv_iconst (v := 1) hx hb dX8_go_95 (by decide) ?_
      refine lv_iadd hx hb dX8_go_96 ?_
      refine r_top (y := nI ((3 * rm) + 1)) (nI_add (3 * rm) 1) ?_
      refine lv_iload_n hx hb dX8_go_97 rfl (lv_at hl 1 rfl) ?_
      refine r_st C h 1 rfl ((3 * rm) + 1) (rfl) (by omega) (by decide) (g := upd rd ((3 * rm) + 1) ((nI cd) - 48)) (fun _ _ => rfl) (ws' := [(p0, .inr (8, [.ref p1, .int pgm, .ref p2, .int (nI rm), .int rdb, .int (nI (st + 1)), .int (nI n), .int bar, .int hrs, .int crd, .ref p3, .ref p4, .ref p5, .ref p6, .ref p7, .int tof, .int tmu, .ref p8, .ref p9, .int bdn, .ref p10, .int snm, .ref p11, .ref p12, .ref p13, .int sdn, .int kcs, .int khr, .int ksn, .ref p14, .ref p15, .ref p16, .ref p17, .long hlg])), (p2, .inl (cI, 15, .inl (upd rd ((3 * rm) + 1) ((nI cd) - 48))))]) rfl dX8_go_98 (fun H locs h => ?_)
      refine lv_iload_n hx hb dX8_go_99 rfl (lv_at hl 1 rfl) ?_
      refine lv_i2l hx hb dX8_go_100 rfl ?_
      refine lv_lconst (v := 0) hx hb dX8_go_101 (by decide) ?_
      refine lv_ldc2 (v := 9) hx hb C.1.2.2.2.1 (C.1.2.2.2.2 _ mq_RX8_84) dX8_go_102 ?_
      refine k_Si (rest := []) (as := [.long (Int32.toInt64 ((nI cd) - 48)), .long 0, .long 9]) (wc := []) (wr := [(p0, .inr (8, [.ref p1, .int pgm, .ref p2, .int (nI rm), .int rdb, .int (nI (st + 1)), .int (nI n), .int bar, .int hrs, .int crd, .ref p3, .ref p4, .ref p5, .ref p6, .ref p7, .int tof, .int tmu, .ref p8, .ref p9, .int bdn, .ref p10, .int snm, .ref p11, .ref p12, .ref p13, .int sdn, .int kcs, .int khr, .int ksn, .ref p14, .ref p15, .ref p16, .ref p17, .long hlg])), (p2, .inl (cI, 15, .inl (upd rd ((3 * rm) + 1) ((nI cd) - 48))))]) (isC := []) (isR := [0, 1]) (w2 := fun (_ : Unit) => [(p0, .inr (8, [.ref p1, .int pgm, .ref p2, .int (nI rm), .int rdb, .int (nI (st + 1)), .int (nI n), .int bar, .int hrs, .int crd, .ref p3, .ref p4, .ref p5, .ref p6, .ref p7, .int tof, .int tmu, .ref p8, .ref p9, .int bdn, .ref p10, .int snm, .ref p11, .ref p12, .ref p13, .int sdn, .int kcs, .int khr, .int ksn, .ref p14, .ref p15, .ref p16, .ref p17, .long hlg])), (p2, .inl (cI, 15, .inl (upd rd ((3 * rm) + 1) ((nI cd) - 48))))]) C h (c_X8_in l D cI cZ kS vS (Int32.toInt64 ((nI cd) - 48)) 0 9 ) wv_X8_in rfl ⟨rfl, rfl, rfl, rfl, by decide⟩ ml_RX8_67 [0, 1] rfl (fun _ => rfl) ⟨Nat.le_of_ble_eq_true rfl, Nat.le_of_ble_eq_true rfl⟩ ⟨Nat.le_of_ble_eq_true rfl, Nat.le_of_ble_eq_true rfl⟩ (Nat.le_of_ble_eq_true rfl) hl rfl dX8_go_105 (fun r u H locs hq h => ?_)
      have h : HS D A s H locs [(p0, .inr (8, [.ref p1, .int pgm, .ref p2, .int (nI rm), .int rdb, .int (nI (st + 1)), .int (nI n), .int bar, .int hrs, .int crd, .ref p3, .ref p4, .ref p5, .ref p6, .ref p7, .int tof, .int tmu, .ref p8, .ref p9, .int bdn, .ref p10, .int snm, .ref p11, .ref p12, .ref p13, .int sdn, .int kcs, .int khr, .int ksn, .ref p14, .ref p15, .ref p16, .ref p17, .long hlg])), (p2, .inl (cI, 15, .inl (upd rd ((3 * rm) + 1) ((nI cd) - 48))))] := h
      have hq : r = bI (lin (Int32.toInt64 ((nI cd) - 48)) 0 9) := hq
      have hq := hq.symm
      subst hq
      have ef : (nI (st + 1)) = (nI (gst st cd)) := by rw [e0]; rfl
      have h : HS D A s H locs [(p0, .inr (8, [.ref p1, .int pgm, .ref p2, .int (nI rm), .int rdb, .int (nI (gst st cd)), .int (nI n), .int bar, .int hrs, .int crd, .ref p3, .ref p4, .ref p5, .ref p6, .ref p7, .int tof, .int tmu, .ref p8, .ref p9, .int bdn, .ref p10, .int snm, .ref p11, .ref p12, .ref p13, .int sdn, .int kcs, .int khr, .int ksn, .ref p14, .ref p15, .ref p16, .ref p17, .long hlg])), (p2, .inl (cI, 15, .inl (upd rd ((3 * rm) + 1) ((nI cd) - 48))))] := by rw [← ef]; exact h
      have ef : (nI rm) = (nI (grm st rm)) := by rw [e0]; rfl
      have h : HS D A s H locs [(p0, .inr (8, [.ref p1, .int pgm, .ref p2, .int (nI (grm st rm)), .int rdb, .int (nI (gst st cd)), .int (nI n), .int bar, .int hrs, .int crd, .ref p3, .ref p4, .ref p5, .ref p6, .ref p7, .int tof, .int tmu, .ref p8, .ref p9, .int bdn, .ref p10, .int snm, .ref p11, .ref p12, .ref p13, .int sdn, .int kcs, .int khr, .int ksn, .ref p14, .ref p15, .ref p16, .ref p17, .long hlg])), (p2, .inl (cI, 15, .inl (upd rd ((3 * rm) + 1) ((nI cd) - 48))))] := by rw [← ef]; exact h
      have ef : rdb = (grb st cd rdb) := by rw [e0]; rfl
      have h : HS D A s H locs [(p0, .inr (8, [.ref p1, .int pgm, .ref p2, .int (nI (grm st rm)), .int (grb st cd rdb), .int (nI (gst st cd)), .int (nI n), .int bar, .int hrs, .int crd, .ref p3, .ref p4, .ref p5, .ref p6, .ref p7, .int tof, .int tmu, .ref p8, .ref p9, .int bdn, .ref p10, .int snm, .ref p11, .ref p12, .ref p13, .int sdn, .int kcs, .int khr, .int ksn, .ref p14, .ref p15, .ref p16, .ref p17, .long hlg])), (p2, .inl (cI, 15, .inl (upd rd ((3 * rm) + 1) ((nI cd) - 48))))] := by rw [← ef]; exact h
      have h := h.arr 1 (g := grd st rm cd rd) rfl (fun j _ => by rw [e0]; rfl) rfl
      exact hret (r := bI (lin (Int32.toInt64 ((nI cd) - 48)) 0 9)) () dX8_go_108 h (bI_nar _) (by rw [e0]; exact congrArg bI (lin_09 cd (by omega)))
    · skip
      by_cases k_21_2 : nI st = 2
      · skip
        refine r_top (y := 2) k_21_2 ?_
        have e0 : st = 2 := (jeq (a := st) (b := 2) (by omega) (by omega)).mp k_21_2
        have hr5 := hr4 (by omega)
        refine lv_tableIn (tgt := 109) hx hb dX8_go_21 (by decide) (by decide) rfl (by decide) ?_
        refine lv_aload_n hx hb dX8_go_109 rfl (lv_at hl 2 rfl) ?_
        refine r_get C h fk8 0 2 rfl (by decide) mf_RX8_13 rfl dX8_go_110 ?_
        refine lv_iconst (v := 3) hx hb dX8_go_113 (by decide) ?_
        refine lv_aload_n hx hb dX8_go_114 rfl (lv_at hl 2 rfl) ?_
        refine r_get C h fk8 0 3 rfl (by decide) mf_RX8_77 rfl dX8_go_115 ?_
        refine lv_imul hx hb dX8_go_118 ?_
        refine r_top (y := nI (3 * rm)) (pk_mul 3 rm) ?_
        refine lv_iconst (v := 2) hx hb dX8_go_119 (by decide) ?_
        refine lv_iadd hx hb dX8_go_120 ?_
        refine r_top (y := nI ((3 * rm) + 2)) (nI_add (3 * rm) 2) ?_
        refine lv_iload_n hx hb dX8_go_121 rfl (lv_at hl 1 rfl) ?_
        refine r_st C h 1 rfl ((3 * rm) + 2) (rfl) (by omega) (by decide) (g := upd rd ((3 * rm) + 2) ((nI cd) - 48)) (fun _ _ => rfl) (ws' := [(p0, .inr (8, [.ref p1, .int pgm, .ref p2, .int (nI rm), .int rdb, .int (nI (st + 1)), .int (nI n), .int bar, .int hrs, .int crd, .ref p3, .ref p4, .ref p5, .ref p6, .ref p7, .int tof, .int tmu, .ref p8, .ref p9, .int bdn, .ref p10, .int snm, .ref p11, .ref p12, .ref p13, .int sdn, .int kcs, .int khr, .int ksn, .ref p14, .ref p15, .ref p16, .ref p17, .long hlg])), (p2, .inl (cI, 15, .inl (upd rd ((3 * rm) + 2) ((nI cd) - 48))))]) rfl dX8_go_122 (fun H locs h => ?_)
        refine lv_aload_n hx hb dX8_go_123 rfl (lv_at hl 2 rfl) ?_
        refine lv_dup hx hb dX8_go_124 rfl ?_
        refine r_get C h fk8 0 3 rfl (by decide) mf_RX8_77 rfl dX8_go_125 ?_
        refine lv_iconst (v := 1) hx hb dX8_go_128 (by decide) ?_
        refine lv_iadd hx hb dX8_go_129 ?_
        refine r_top (y := nI (rm + 1)) (nI_add rm 1) ?_
        refine r_put C h fk8 0 3 rfl (by decide) mf_RX8_77 rfl (rfl) rfl (Nat.le_of_ble_eq_true rfl) (ws' := [(p0, .inr (8, [.ref p1, .int pgm, .ref p2, .int (nI (rm + 1)), .int rdb, .int (nI (st + 1)), .int (nI n), .int bar, .int hrs, .int crd, .ref p3, .ref p4, .ref p5, .ref p6, .ref p7, .int tof, .int tmu, .ref p8, .ref p9, .int bdn, .ref p10, .int snm, .ref p11, .ref p12, .ref p13, .int sdn, .int kcs, .int khr, .int ksn, .ref p14, .ref p15, .ref p16, .ref p17, .long hlg])), (p2, .inl (cI, 15, .inl (upd rd ((3 * rm) + 2) ((nI cd) - 48))))]) rfl dX8_go_130 (fun H locs h => ?_)
        refine lv_iload_n hx hb dX8_go_133 rfl (lv_at hl 1 rfl) ?_
        refine lv_i2l hx hb dX8_go_134 rfl ?_
        refine lv_lconst (v := 0) hx hb dX8_go_135 (by decide) ?_
        refine lv_ldc2 (v := 5) hx hb C.1.2.2.2.1 (C.1.2.2.2.2 _ mq_RX8_86) dX8_go_136 ?_
        refine k_Si (rest := []) (as := [.long (Int32.toInt64 ((nI cd) - 48)), .long 0, .long 5]) (wc := []) (wr := [(p0, .inr (8, [.ref p1, .int pgm, .ref p2, .int (nI (rm + 1)), .int rdb, .int (nI (st + 1)), .int (nI n), .int bar, .int hrs, .int crd, .ref p3, .ref p4, .ref p5, .ref p6, .ref p7, .int tof, .int tmu, .ref p8, .ref p9, .int bdn, .ref p10, .int snm, .ref p11, .ref p12, .ref p13, .int sdn, .int kcs, .int khr, .int ksn, .ref p14, .ref p15, .ref p16, .ref p17, .long hlg])), (p2, .inl (cI, 15, .inl (upd rd ((3 * rm) + 2) ((nI cd) - 48))))]) (isC := []) (isR := [0, 1]) (w2 := fun (_ : Unit) => [(p0, .inr (8, [.ref p1, .int pgm, .ref p2, .int (nI (rm + 1)), .int rdb, .int (nI (st + 1)), .int (nI n), .int bar, .int hrs, .int crd, .ref p3, .ref p4, .ref p5, .ref p6, .ref p7, .int tof, .int tmu, .ref p8, .ref p9, .int bdn, .ref p10, .int snm, .ref p11, .ref p12, .ref p13, .int sdn, .int kcs, .int khr, .int ksn, .ref p14, .ref p15, .ref p16, .ref p17, .long hlg])), (p2, .inl (cI, 15, .inl (upd rd ((3 * rm) + 2) ((nI cd) - 48))))]) C h (c_X8_in l D cI cZ kS vS (Int32.toInt64 ((nI cd) - 48)) 0 5 ) wv_X8_in rfl ⟨rfl, rfl, rfl, rfl, by decide⟩ ml_RX8_67 [0, 1] rfl (fun _ => rfl) ⟨Nat.le_of_ble_eq_true rfl, Nat.le_of_ble_eq_true rfl⟩ ⟨Nat.le_of_ble_eq_true rfl, Nat.le_of_ble_eq_true rfl⟩ (Nat.le_of_ble_eq_true rfl) hl rfl dX8_go_139 (fun r u H locs hq h => ?_)
        have h : HS D A s H locs [(p0, .inr (8, [.ref p1, .int pgm, .ref p2, .int (nI (rm + 1)), .int rdb, .int (nI (st + 1)), .int (nI n), .int bar, .int hrs, .int crd, .ref p3, .ref p4, .ref p5, .ref p6, .ref p7, .int tof, .int tmu, .ref p8, .ref p9, .int bdn, .ref p10, .int snm, .ref p11, .ref p12, .ref p13, .int sdn, .int kcs, .int khr, .int ksn, .ref p14, .ref p15, .ref p16, .ref p17, .long hlg])), (p2, .inl (cI, 15, .inl (upd rd ((3 * rm) + 2) ((nI cd) - 48))))] := h
        have hq : r = bI (lin (Int32.toInt64 ((nI cd) - 48)) 0 5) := hq
        have hq := hq.symm
        subst hq
        have ef : (nI (st + 1)) = (nI (gst st cd)) := by rw [e0]; rfl
        have h : HS D A s H locs [(p0, .inr (8, [.ref p1, .int pgm, .ref p2, .int (nI (rm + 1)), .int rdb, .int (nI (gst st cd)), .int (nI n), .int bar, .int hrs, .int crd, .ref p3, .ref p4, .ref p5, .ref p6, .ref p7, .int tof, .int tmu, .ref p8, .ref p9, .int bdn, .ref p10, .int snm, .ref p11, .ref p12, .ref p13, .int sdn, .int kcs, .int khr, .int ksn, .ref p14, .ref p15, .ref p16, .ref p17, .long hlg])), (p2, .inl (cI, 15, .inl (upd rd ((3 * rm) + 2) ((nI cd) - 48))))] := by rw [← ef]; exact h
        have ef : (nI (rm + 1)) = (nI (grm st rm)) := by rw [e0]; rfl
        have h : HS D A s H locs [(p0, .inr (8, [.ref p1, .int pgm, .ref p2, .int (nI (grm st rm)), .int rdb, .int (nI (gst st cd)), .int (nI n), .int bar, .int hrs, .int crd, .ref p3, .ref p4, .ref p5, .ref p6, .ref p7, .int tof, .int tmu, .ref p8, .ref p9, .int bdn, .ref p10, .int snm, .ref p11, .ref p12, .ref p13, .int sdn, .int kcs, .int khr, .int ksn, .ref p14, .ref p15, .ref p16, .ref p17, .long hlg])), (p2, .inl (cI, 15, .inl (upd rd ((3 * rm) + 2) ((nI cd) - 48))))] := by rw [← ef]; exact h
        have ef : rdb = (grb st cd rdb) := by rw [e0]; rfl
        have h : HS D A s H locs [(p0, .inr (8, [.ref p1, .int pgm, .ref p2, .int (nI (grm st rm)), .int (grb st cd rdb), .int (nI (gst st cd)), .int (nI n), .int bar, .int hrs, .int crd, .ref p3, .ref p4, .ref p5, .ref p6, .ref p7, .int tof, .int tmu, .ref p8, .ref p9, .int bdn, .ref p10, .int snm, .ref p11, .ref p12, .ref p13, .int sdn, .int kcs, .int khr, .int ksn, .ref p14, .ref p15, .ref p16, .ref p17, .long hlg])), (p2, .inl (cI, 15, .inl (upd rd ((3 * rm) + 2) ((nI cd) - 48))))] := by rw [← ef]; exact h
        have h := h.arr 1 (g := grd st rm cd rd) rfl (fun j _ => by rw [e0]; rfl) rfl
        exact hret (r := bI (lin (Int32.toInt64 ((nI cd) - 48)) 0 5)) () dX8_go_142 h (bI_nar _) (by rw [e0]; exact congrArg bI (lin_05 cd (by omega)))
      · skip
        by_cases k_21_3 : nI st = 3
        · skip
          refine r_top (y := 3) k_21_3 ?_
          have e0 : st = 3 := (jeq (a := st) (b := 3) (by omega) (by omega)).mp k_21_3
          refine lv_tableIn (tgt := 143) hx hb dX8_go_21 (by decide) (by decide) rfl (by decide) ?_
          refine lv_aload_n hx hb dX8_go_143 rfl (lv_at hl 2 rfl) ?_
          refine lv_iload_n hx hb dX8_go_144 rfl (lv_at hl 3 rfl) ?_
          refine lv_bipush (v := 44) hx hb dX8_go_145 (by decide) ?_
          refine lv_icmp_ne (tgt := 154) hx hb dX8_go_147 (by decide) (fun c_147 => ?_) (fun c_147 => ?_)
          · skip
            have c_147 : ¬ cd = 44 := fun z => c_147 ((jeq (a := cd) (b := 44) (by omega) (by omega)).mpr z)
            refine lv_iconst (v := 4) hx hb dX8_go_154 (by decide) ?_
            refine r_put C h fk8 0 5 rfl (by decide) mf_RX8_74 rfl (rfl) rfl (Nat.le_of_ble_eq_true rfl) (ws' := [(p0, .inr (8, [.ref p1, .int pgm, .ref p2, .int (nI rm), .int rdb, .int 4, .int (nI n), .int bar, .int hrs, .int crd, .ref p3, .ref p4, .ref p5, .ref p6, .ref p7, .int tof, .int tmu, .ref p8, .ref p9, .int bdn, .ref p10, .int snm, .ref p11, .ref p12, .ref p13, .int sdn, .int kcs, .int khr, .int ksn, .ref p14, .ref p15, .ref p16, .ref p17, .long hlg])), (p2, .inl (cI, 15, .inl rd))]) rfl dX8_go_155 (fun H locs h => ?_)
            refine lv_iload_n hx hb dX8_go_158 rfl (lv_at hl 3 rfl) ?_
            refine lv_bipush (v := 44) hx hb dX8_go_159 (by decide) ?_
            refine lv_icmp_ne (tgt := 180) hx hb dX8_go_161 (by decide) (fun c_161 => ?_) (fun c_161 => ?_)
            · skip
              have c_161 : ¬ cd = 44 := fun z => c_161 ((jeq (a := cd) (b := 44) (by omega) (by omega)).mpr z)
              refine lv_iload_n hx hb dX8_go_180 rfl (lv_at hl 3 rfl) ?_
              refine lv_bipush (v := 59) hx hb dX8_go_181 (by decide) ?_
              refine lv_icmp_ne (tgt := 198) hx hb dX8_go_183 (by decide) (fun c_183 => ?_) (fun c_183 => ?_)
              · skip
                have c_183 : ¬ cd = 59 := fun z => c_183 ((jeq (a := cd) (b := 59) (by omega) (by omega)).mpr z)
                refine lv_iconst (v := 0) hx hb dX8_go_198 (by decide) ?_
                have ef : 4 = (nI (gst st cd)) := by rw [e0]; exact congrArg nI (if_neg c_147).symm
                have h : HS D A s H locs [(p0, .inr (8, [.ref p1, .int pgm, .ref p2, .int (nI rm), .int rdb, .int (nI (gst st cd)), .int (nI n), .int bar, .int hrs, .int crd, .ref p3, .ref p4, .ref p5, .ref p6, .ref p7, .int tof, .int tmu, .ref p8, .ref p9, .int bdn, .ref p10, .int snm, .ref p11, .ref p12, .ref p13, .int sdn, .int kcs, .int khr, .int ksn, .ref p14, .ref p15, .ref p16, .ref p17, .long hlg])), (p2, .inl (cI, 15, .inl rd))] := by rw [← ef]; exact h
                have ef : (nI rm) = (nI (grm st rm)) := by rw [e0]; rfl
                have h : HS D A s H locs [(p0, .inr (8, [.ref p1, .int pgm, .ref p2, .int (nI (grm st rm)), .int rdb, .int (nI (gst st cd)), .int (nI n), .int bar, .int hrs, .int crd, .ref p3, .ref p4, .ref p5, .ref p6, .ref p7, .int tof, .int tmu, .ref p8, .ref p9, .int bdn, .ref p10, .int snm, .ref p11, .ref p12, .ref p13, .int sdn, .int kcs, .int khr, .int ksn, .ref p14, .ref p15, .ref p16, .ref p17, .long hlg])), (p2, .inl (cI, 15, .inl rd))] := by rw [← ef]; exact h
                have ef : rdb = (grb st cd rdb) := by rw [e0]; rfl
                have h : HS D A s H locs [(p0, .inr (8, [.ref p1, .int pgm, .ref p2, .int (nI (grm st rm)), .int (grb st cd rdb), .int (nI (gst st cd)), .int (nI n), .int bar, .int hrs, .int crd, .ref p3, .ref p4, .ref p5, .ref p6, .ref p7, .int tof, .int tmu, .ref p8, .ref p9, .int bdn, .ref p10, .int snm, .ref p11, .ref p12, .ref p13, .int sdn, .int kcs, .int khr, .int ksn, .ref p14, .ref p15, .ref p16, .ref p17, .long hlg])), (p2, .inl (cI, 15, .inl rd))] := by rw [← ef]; exact h
                have h := h.arr 1 (g := grd st rm cd rd) rfl (fun j _ => by rw [e0]; rfl) rfl
                exact hret (r := 0) () dX8_go_199 h (rfl) (by rw [e0]; show _ = bI (if cd = 44 then decide (rm < 5) else if cd = 59 then decide (1 < rm) else false); rw [if_neg c_147, if_neg c_183]; rfl)
              · skip
                have c_183 := (jeq (a := cd) (b := 59) (by omega) (by omega)).mp c_183
                refine lv_aload_n hx hb dX8_go_186 rfl (lv_at hl 2 rfl) ?_
                refine r_get C h fk8 0 3 rfl (by decide) mf_RX8_77 rfl dX8_go_187 ?_
                refine lv_iconst (v := 1) hx hb dX8_go_190 (by decide) ?_
                refine lv_icmp_le (tgt := 198) hx hb dX8_go_191 (by decide) (fun c_191 => ?_) (fun c_191 => ?_)
                · skip
                  have c_191 := (jle (a := rm) (b := 1) (by omega) (by omega)).mp c_191
                  refine lv_iconst (v := 0) hx hb dX8_go_198 (by decide) ?_
                  have ef : 4 = (nI (gst st cd)) := by rw [e0]; exact congrArg nI (if_neg c_147).symm
                  have h : HS D A s H locs [(p0, .inr (8, [.ref p1, .int pgm, .ref p2, .int (nI rm), .int rdb, .int (nI (gst st cd)), .int (nI n), .int bar, .int hrs, .int crd, .ref p3, .ref p4, .ref p5, .ref p6, .ref p7, .int tof, .int tmu, .ref p8, .ref p9, .int bdn, .ref p10, .int snm, .ref p11, .ref p12, .ref p13, .int sdn, .int kcs, .int khr, .int ksn, .ref p14, .ref p15, .ref p16, .ref p17, .long hlg])), (p2, .inl (cI, 15, .inl rd))] := by rw [← ef]; exact h
                  have ef : (nI rm) = (nI (grm st rm)) := by rw [e0]; rfl
                  have h : HS D A s H locs [(p0, .inr (8, [.ref p1, .int pgm, .ref p2, .int (nI (grm st rm)), .int rdb, .int (nI (gst st cd)), .int (nI n), .int bar, .int hrs, .int crd, .ref p3, .ref p4, .ref p5, .ref p6, .ref p7, .int tof, .int tmu, .ref p8, .ref p9, .int bdn, .ref p10, .int snm, .ref p11, .ref p12, .ref p13, .int sdn, .int kcs, .int khr, .int ksn, .ref p14, .ref p15, .ref p16, .ref p17, .long hlg])), (p2, .inl (cI, 15, .inl rd))] := by rw [← ef]; exact h
                  have ef : rdb = (grb st cd rdb) := by rw [e0]; rfl
                  have h : HS D A s H locs [(p0, .inr (8, [.ref p1, .int pgm, .ref p2, .int (nI (grm st rm)), .int (grb st cd rdb), .int (nI (gst st cd)), .int (nI n), .int bar, .int hrs, .int crd, .ref p3, .ref p4, .ref p5, .ref p6, .ref p7, .int tof, .int tmu, .ref p8, .ref p9, .int bdn, .ref p10, .int snm, .ref p11, .ref p12, .ref p13, .int sdn, .int kcs, .int khr, .int ksn, .ref p14, .ref p15, .ref p16, .ref p17, .long hlg])), (p2, .inl (cI, 15, .inl rd))] := by rw [← ef]; exact h
                  have h := h.arr 1 (g := grd st rm cd rd) rfl (fun j _ => by rw [e0]; rfl) rfl
                  exact hret (r := 0) () dX8_go_199 h (rfl) (by rw [e0]; show _ = bI (if cd = 44 then decide (rm < 5) else if cd = 59 then decide (1 < rm) else false); rw [if_neg c_147, if_pos c_183, decide_eq_false (by omega)]; rfl)
                · skip
                  have c_191 : ¬ rm ≤ 1 := fun z => c_191 ((jle (a := rm) (b := 1) (by omega) (by omega)).mpr z)
                  refine lv_iconst (v := 1) hx hb dX8_go_194 (by decide) ?_
                  refine lv_goto (tgt := 199) hx hb dX8_go_195 (by decide) ?_
                  have ef : 4 = (nI (gst st cd)) := by rw [e0]; exact congrArg nI (if_neg c_147).symm
                  have h : HS D A s H locs [(p0, .inr (8, [.ref p1, .int pgm, .ref p2, .int (nI rm), .int rdb, .int (nI (gst st cd)), .int (nI n), .int bar, .int hrs, .int crd, .ref p3, .ref p4, .ref p5, .ref p6, .ref p7, .int tof, .int tmu, .ref p8, .ref p9, .int bdn, .ref p10, .int snm, .ref p11, .ref p12, .ref p13, .int sdn, .int kcs, .int khr, .int ksn, .ref p14, .ref p15, .ref p16, .ref p17, .long hlg])), (p2, .inl (cI, 15, .inl rd))] := by rw [← ef]; exact h
                  have ef : (nI rm) = (nI (grm st rm)) := by rw [e0]; rfl
                  have h : HS D A s H locs [(p0, .inr (8, [.ref p1, .int pgm, .ref p2, .int (nI (grm st rm)), .int rdb, .int (nI (gst st cd)), .int (nI n), .int bar, .int hrs, .int crd, .ref p3, .ref p4, .ref p5, .ref p6, .ref p7, .int tof, .int tmu, .ref p8, .ref p9, .int bdn, .ref p10, .int snm, .ref p11, .ref p12, .ref p13, .int sdn, .int kcs, .int khr, .int ksn, .ref p14, .ref p15, .ref p16, .ref p17, .long hlg])), (p2, .inl (cI, 15, .inl rd))] := by rw [← ef]; exact h
                  have ef : rdb = (grb st cd rdb) := by rw [e0]; rfl
                  have h : HS D A s H locs [(p0, .inr (8, [.ref p1, .int pgm, .ref p2, .int (nI (grm st rm)), .int (grb st cd rdb), .int (nI (gst st cd)), .int (nI n), .int bar, .int hrs, .int crd, .ref p3, .ref p4, .ref p5, .ref p6, .ref p7, .int tof, .int tmu, .ref p8, .ref p9, .int bdn, .ref p10, .int snm, .ref p11, .ref p12, .ref p13, .int sdn, .int kcs, .int khr, .int ksn, .ref p14, .ref p15, .ref p16, .ref p17, .long hlg])), (p2, .inl (cI, 15, .inl rd))] := by rw [← ef]; exact h
                  have h := h.arr 1 (g := grd st rm cd rd) rfl (fun j _ => by rw [e0]; rfl) rfl
                  exact hret (r := 1) () dX8_go_199 h (rfl) (by rw [e0]; show _ = bI (if cd = 44 then decide (rm < 5) else if cd = 59 then decide (1 < rm) else false); rw [if_neg c_147, if_pos c_183, decide_eq_true (by omega)]; rfl)
            · skip
              have c_161 := (jeq (a := cd) (b := 44) (by omega) (by omega)).mp c_161
              exact absurd c_161 c_147
          · skip
            have c_147 := (jeq (a := cd) (b := 44) (by omega) (by omega)).mp c_147
            refine lv_iconst (v := 0) hx hb dX8_go_150 (by decide) ?_
            refine lv_goto (tgt := 155) hx hb dX8_go_151 (by decide) ?_
            refine r_put C h fk8 0 5 rfl (by decide) mf_RX8_74 rfl (rfl) rfl (Nat.le_of_ble_eq_true rfl) (ws' := [(p0, .inr (8, [.ref p1, .int pgm, .ref p2, .int (nI rm), .int rdb, .int 0, .int (nI n), .int bar, .int hrs, .int crd, .ref p3, .ref p4, .ref p5, .ref p6, .ref p7, .int tof, .int tmu, .ref p8, .ref p9, .int bdn, .ref p10, .int snm, .ref p11, .ref p12, .ref p13, .int sdn, .int kcs, .int khr, .int ksn, .ref p14, .ref p15, .ref p16, .ref p17, .long hlg])), (p2, .inl (cI, 15, .inl rd))]) rfl dX8_go_155 (fun H locs h => ?_)
            refine lv_iload_n hx hb dX8_go_158 rfl (lv_at hl 3 rfl) ?_
            refine lv_bipush (v := 44) hx hb dX8_go_159 (by decide) ?_
            refine lv_icmp_ne (tgt := 180) hx hb dX8_go_161 (by decide) (fun c_161 => ?_) (fun c_161 => ?_)
            · skip
              have c_161 : ¬ cd = 44 := fun z => c_161 ((jeq (a := cd) (b := 44) (by omega) (by omega)).mpr z)
              exact absurd c_147 c_161
            · skip
              have c_161 := (jeq (a := cd) (b := 44) (by omega) (by omega)).mp c_161
              refine lv_aload_n hx hb dX8_go_164 rfl (lv_at hl 2 rfl) ?_
              refine r_get C h fk8 0 3 rfl (by decide) mf_RX8_77 rfl dX8_go_165 ?_
              refine lv_iconst (v := 5) hx hb dX8_go_168 (by decide) ?_
              refine lv_icmp_ge (tgt := 176) hx hb dX8_go_169 (by decide) (fun c_169 => ?_) (fun c_169 => ?_)
              · skip
                have c_169 := (jle (a := 5) (b := rm) (by omega) (by omega)).mp c_169
                refine lv_iconst (v := 0) hx hb dX8_go_176 (by decide) ?_
                refine lv_goto (tgt := 199) hx hb dX8_go_177 (by decide) ?_
                have ef : 0 = (nI (gst st cd)) := by rw [e0]; exact congrArg nI (if_pos c_147).symm
                have h : HS D A s H locs [(p0, .inr (8, [.ref p1, .int pgm, .ref p2, .int (nI rm), .int rdb, .int (nI (gst st cd)), .int (nI n), .int bar, .int hrs, .int crd, .ref p3, .ref p4, .ref p5, .ref p6, .ref p7, .int tof, .int tmu, .ref p8, .ref p9, .int bdn, .ref p10, .int snm, .ref p11, .ref p12, .ref p13, .int sdn, .int kcs, .int khr, .int ksn, .ref p14, .ref p15, .ref p16, .ref p17, .long hlg])), (p2, .inl (cI, 15, .inl rd))] := by rw [← ef]; exact h
                have ef : (nI rm) = (nI (grm st rm)) := by rw [e0]; rfl
                have h : HS D A s H locs [(p0, .inr (8, [.ref p1, .int pgm, .ref p2, .int (nI (grm st rm)), .int rdb, .int (nI (gst st cd)), .int (nI n), .int bar, .int hrs, .int crd, .ref p3, .ref p4, .ref p5, .ref p6, .ref p7, .int tof, .int tmu, .ref p8, .ref p9, .int bdn, .ref p10, .int snm, .ref p11, .ref p12, .ref p13, .int sdn, .int kcs, .int khr, .int ksn, .ref p14, .ref p15, .ref p16, .ref p17, .long hlg])), (p2, .inl (cI, 15, .inl rd))] := by rw [← ef]; exact h
                have ef : rdb = (grb st cd rdb) := by rw [e0]; rfl
                have h : HS D A s H locs [(p0, .inr (8, [.ref p1, .int pgm, .ref p2, .int (nI (grm st rm)), .int (grb st cd rdb), .int (nI (gst st cd)), .int (nI n), .int bar, .int hrs, .int crd, .ref p3, .ref p4, .ref p5, .ref p6, .ref p7, .int tof, .int tmu, .ref p8, .ref p9, .int bdn, .ref p10, .int snm, .ref p11, .ref p12, .ref p13, .int sdn, .int kcs, .int khr, .int ksn, .ref p14, .ref p15, .ref p16, .ref p17, .long hlg])), (p2, .inl (cI, 15, .inl rd))] := by rw [← ef]; exact h
                have h := h.arr 1 (g := grd st rm cd rd) rfl (fun j _ => by rw [e0]; rfl) rfl
                exact hret (r := 0) () dX8_go_199 h (rfl) (by rw [e0]; show _ = bI (if cd = 44 then decide (rm < 5) else if cd = 59 then decide (1 < rm) else false); rw [if_pos c_147, decide_eq_false (by omega)]; rfl)
              · skip
                have c_169 : ¬ 5 ≤ rm := fun z => c_169 ((jle (a := 5) (b := rm) (by omega) (by omega)).mpr z)
                refine lv_iconst (v := 1) hx hb dX8_go_172 (by decide) ?_
                refine lv_goto (tgt := 199) hx hb dX8_go_173 (by decide) ?_
                have ef : 0 = (nI (gst st cd)) := by rw [e0]; exact congrArg nI (if_pos c_147).symm
                have h : HS D A s H locs [(p0, .inr (8, [.ref p1, .int pgm, .ref p2, .int (nI rm), .int rdb, .int (nI (gst st cd)), .int (nI n), .int bar, .int hrs, .int crd, .ref p3, .ref p4, .ref p5, .ref p6, .ref p7, .int tof, .int tmu, .ref p8, .ref p9, .int bdn, .ref p10, .int snm, .ref p11, .ref p12, .ref p13, .int sdn, .int kcs, .int khr, .int ksn, .ref p14, .ref p15, .ref p16, .ref p17, .long hlg])), (p2, .inl (cI, 15, .inl rd))] := by rw [← ef]; exact h
                have ef : (nI rm) = (nI (grm st rm)) := by rw [e0]; rfl
                have h : HS D A s H locs [(p0, .inr (8, [.ref p1, .int pgm, .ref p2, .int (nI (grm st rm)), .int rdb, .int (nI (gst st cd)), .int (nI n), .int bar, .int hrs, .int crd, .ref p3, .ref p4, .ref p5, .ref p6, .ref p7, .int tof, .int tmu, .ref p8, .ref p9, .int bdn, .ref p10, .int snm, .ref p11, .ref p12, .ref p13, .int sdn, .int kcs, .int khr, .int ksn, .ref p14, .ref p15, .ref p16, .ref p17, .long hlg])), (p2, .inl (cI, 15, .inl rd))] := by rw [← ef]; exact h
                have ef : rdb = (grb st cd rdb) := by rw [e0]; rfl
                have h : HS D A s H locs [(p0, .inr (8, [.ref p1, .int pgm, .ref p2, .int (nI (grm st rm)), .int (grb st cd rdb), .int (nI (gst st cd)), .int (nI n), .int bar, .int hrs, .int crd, .ref p3, .ref p4, .ref p5, .ref p6, .ref p7, .int tof, .int tmu, .ref p8, .ref p9, .int bdn, .ref p10, .int snm, .ref p11, .ref p12, .ref p13, .int sdn, .int kcs, .int khr, .int ksn, .ref p14, .ref p15, .ref p16, .ref p17, .long hlg])), (p2, .inl (cI, 15, .inl rd))] := by rw [← ef]; exact h
                have h := h.arr 1 (g := grd st rm cd rd) rfl (fun j _ => by rw [e0]; rfl) rfl
                exact hret (r := 1) () dX8_go_199 h (rfl) (by rw [e0]; show _ = bI (if cd = 44 then decide (rm < 5) else if cd = 59 then decide (1 < rm) else false); rw [if_pos c_147, decide_eq_true (by omega)]; rfl)
        · skip
          by_cases k_21_4 : nI st = 4
          · skip
            refine r_top (y := 4) k_21_4 ?_
            have e0 : st = 4 := (jeq (a := st) (b := 4) (by omega) (by omega)).mp k_21_4
            refine lv_tableIn (tgt := 200) hx hb dX8_go_21 (by decide) (by decide) rfl (by decide) ?_
            refine lv_aload_n hx hb dX8_go_200 rfl (lv_at hl 2 rfl) ?_
            refine lv_iload_n hx hb dX8_go_201 rfl (lv_at hl 1 rfl) ?_
            refine r_put C h fk8 0 4 rfl (by decide) mf_RX8_88 rfl (rfl) rfl (Nat.le_of_ble_eq_true rfl) (ws' := [(p0, .inr (8, [.ref p1, .int pgm, .ref p2, .int (nI rm), .int ((nI cd) - 48), .int (nI (st + 1)), .int (nI n), .int bar, .int hrs, .int crd, .ref p3, .ref p4, .ref p5, .ref p6, .ref p7, .int tof, .int tmu, .ref p8, .ref p9, .int bdn, .ref p10, .int snm, .ref p11, .ref p12, .ref p13, .int sdn, .int kcs, .int khr, .int ksn, .ref p14, .ref p15, .ref p16, .ref p17, .long hlg])), (p2, .inl (cI, 15, .inl rd))]) rfl dX8_go_202 (fun H locs h => ?_)
            refine lv_iload_n hx hb dX8_go_205 rfl (lv_at hl 1 rfl) ?_
            refine lv_i2l hx hb dX8_go_206 rfl ?_
            refine lv_lconst (v := 1) hx hb dX8_go_207 (by decide) ?_
            refine lv_ldc2 (v := 9) hx hb C.1.2.2.2.1 (C.1.2.2.2.2 _ mq_RX8_84) dX8_go_208 ?_
            refine k_Si (rest := []) (as := [.long (Int32.toInt64 ((nI cd) - 48)), .long 1, .long 9]) (wc := []) (wr := [(p0, .inr (8, [.ref p1, .int pgm, .ref p2, .int (nI rm), .int ((nI cd) - 48), .int (nI (st + 1)), .int (nI n), .int bar, .int hrs, .int crd, .ref p3, .ref p4, .ref p5, .ref p6, .ref p7, .int tof, .int tmu, .ref p8, .ref p9, .int bdn, .ref p10, .int snm, .ref p11, .ref p12, .ref p13, .int sdn, .int kcs, .int khr, .int ksn, .ref p14, .ref p15, .ref p16, .ref p17, .long hlg])), (p2, .inl (cI, 15, .inl rd))]) (isC := []) (isR := [0, 1]) (w2 := fun (_ : Unit) => [(p0, .inr (8, [.ref p1, .int pgm, .ref p2, .int (nI rm), .int ((nI cd) - 48), .int (nI (st + 1)), .int (nI n), .int bar, .int hrs, .int crd, .ref p3, .ref p4, .ref p5, .ref p6, .ref p7, .int tof, .int tmu, .ref p8, .ref p9, .int bdn, .ref p10, .int snm, .ref p11, .ref p12, .ref p13, .int sdn, .int kcs, .int khr, .int ksn, .ref p14, .ref p15, .ref p16, .ref p17, .long hlg])), (p2, .inl (cI, 15, .inl rd))]) C h (c_X8_in l D cI cZ kS vS (Int32.toInt64 ((nI cd) - 48)) 1 9 ) wv_X8_in rfl ⟨rfl, rfl, rfl, rfl, by decide⟩ ml_RX8_67 [0, 1] rfl (fun _ => rfl) ⟨Nat.le_of_ble_eq_true rfl, Nat.le_of_ble_eq_true rfl⟩ ⟨Nat.le_of_ble_eq_true rfl, Nat.le_of_ble_eq_true rfl⟩ (Nat.le_of_ble_eq_true rfl) hl rfl dX8_go_211 (fun r u H locs hq h => ?_)
            have h : HS D A s H locs [(p0, .inr (8, [.ref p1, .int pgm, .ref p2, .int (nI rm), .int ((nI cd) - 48), .int (nI (st + 1)), .int (nI n), .int bar, .int hrs, .int crd, .ref p3, .ref p4, .ref p5, .ref p6, .ref p7, .int tof, .int tmu, .ref p8, .ref p9, .int bdn, .ref p10, .int snm, .ref p11, .ref p12, .ref p13, .int sdn, .int kcs, .int khr, .int ksn, .ref p14, .ref p15, .ref p16, .ref p17, .long hlg])), (p2, .inl (cI, 15, .inl rd))] := h
            have hq : r = bI (lin (Int32.toInt64 ((nI cd) - 48)) 1 9) := hq
            have hq := hq.symm
            subst hq
            have ef : (nI (st + 1)) = (nI (gst st cd)) := by rw [e0]; rfl
            have h : HS D A s H locs [(p0, .inr (8, [.ref p1, .int pgm, .ref p2, .int (nI rm), .int ((nI cd) - 48), .int (nI (gst st cd)), .int (nI n), .int bar, .int hrs, .int crd, .ref p3, .ref p4, .ref p5, .ref p6, .ref p7, .int tof, .int tmu, .ref p8, .ref p9, .int bdn, .ref p10, .int snm, .ref p11, .ref p12, .ref p13, .int sdn, .int kcs, .int khr, .int ksn, .ref p14, .ref p15, .ref p16, .ref p17, .long hlg])), (p2, .inl (cI, 15, .inl rd))] := by rw [← ef]; exact h
            have ef : (nI rm) = (nI (grm st rm)) := by rw [e0]; rfl
            have h : HS D A s H locs [(p0, .inr (8, [.ref p1, .int pgm, .ref p2, .int (nI (grm st rm)), .int ((nI cd) - 48), .int (nI (gst st cd)), .int (nI n), .int bar, .int hrs, .int crd, .ref p3, .ref p4, .ref p5, .ref p6, .ref p7, .int tof, .int tmu, .ref p8, .ref p9, .int bdn, .ref p10, .int snm, .ref p11, .ref p12, .ref p13, .int sdn, .int kcs, .int khr, .int ksn, .ref p14, .ref p15, .ref p16, .ref p17, .long hlg])), (p2, .inl (cI, 15, .inl rd))] := by rw [← ef]; exact h
            have ef : ((nI cd) - 48) = (grb st cd rdb) := by rw [e0]; rfl
            have h : HS D A s H locs [(p0, .inr (8, [.ref p1, .int pgm, .ref p2, .int (nI (grm st rm)), .int (grb st cd rdb), .int (nI (gst st cd)), .int (nI n), .int bar, .int hrs, .int crd, .ref p3, .ref p4, .ref p5, .ref p6, .ref p7, .int tof, .int tmu, .ref p8, .ref p9, .int bdn, .ref p10, .int snm, .ref p11, .ref p12, .ref p13, .int sdn, .int kcs, .int khr, .int ksn, .ref p14, .ref p15, .ref p16, .ref p17, .long hlg])), (p2, .inl (cI, 15, .inl rd))] := by rw [← ef]; exact h
            have h := h.arr 1 (g := grd st rm cd rd) rfl (fun j _ => by rw [e0]; rfl) rfl
            exact hret (r := bI (lin (Int32.toInt64 ((nI cd) - 48)) 1 9)) () dX8_go_214 h (bI_nar _) (by rw [e0]; exact congrArg bI (lin_19 cd (by omega)))
          · skip
            have z0 : ¬ st = 0 ∧ ¬ st = 1 ∧ ¬ st = 2 ∧ ¬ st = 3 ∧ ¬ st = 4 := ⟨fun z => k_21_0 (by rw [z]; rfl), fun z => k_21_1 (by rw [z]; rfl), fun z => k_21_2 (by rw [z]; rfl), fun z => k_21_3 (by rw [z]; rfl), fun z => k_21_4 (by rw [z]; rfl)⟩
            have e0 : st = 5 := by omega
            have hO : (nI st).toInt < 0 ∨ 4 < (nI st).toInt := by
              have zk_21_0 := lv_neT (a := 0) k_21_0 (by decide)
              have zk_21_1 := lv_neT (a := 1) k_21_1 (by decide)
              have zk_21_2 := lv_neT (a := 2) k_21_2 (by decide)
              have zk_21_3 := lv_neT (a := 3) k_21_3 (by decide)
              have zk_21_4 := lv_neT (a := 4) k_21_4 (by decide)
              omega
            refine lv_tableOut (tgt := 215) hx hb dX8_go_21 hO (by decide) ?_
            refine lv_iconst (v := 0) hx hb dX8_go_215 (by decide) ?_
            have ef : (nI (st + 1)) = (nI (gst st cd)) := by rw [e0]; rfl
            have h : HS D A s H locs [(p0, .inr (8, [.ref p1, .int pgm, .ref p2, .int (nI rm), .int rdb, .int (nI (gst st cd)), .int (nI n), .int bar, .int hrs, .int crd, .ref p3, .ref p4, .ref p5, .ref p6, .ref p7, .int tof, .int tmu, .ref p8, .ref p9, .int bdn, .ref p10, .int snm, .ref p11, .ref p12, .ref p13, .int sdn, .int kcs, .int khr, .int ksn, .ref p14, .ref p15, .ref p16, .ref p17, .long hlg])), (p2, .inl (cI, 15, .inl rd))] := by rw [← ef]; exact h
            have ef : (nI rm) = (nI (grm st rm)) := by rw [e0]; rfl
            have h : HS D A s H locs [(p0, .inr (8, [.ref p1, .int pgm, .ref p2, .int (nI (grm st rm)), .int rdb, .int (nI (gst st cd)), .int (nI n), .int bar, .int hrs, .int crd, .ref p3, .ref p4, .ref p5, .ref p6, .ref p7, .int tof, .int tmu, .ref p8, .ref p9, .int bdn, .ref p10, .int snm, .ref p11, .ref p12, .ref p13, .int sdn, .int kcs, .int khr, .int ksn, .ref p14, .ref p15, .ref p16, .ref p17, .long hlg])), (p2, .inl (cI, 15, .inl rd))] := by rw [← ef]; exact h
            have ef : rdb = (grb st cd rdb) := by rw [e0]; rfl
            have h : HS D A s H locs [(p0, .inr (8, [.ref p1, .int pgm, .ref p2, .int (nI (grm st rm)), .int (grb st cd rdb), .int (nI (gst st cd)), .int (nI n), .int bar, .int hrs, .int crd, .ref p3, .ref p4, .ref p5, .ref p6, .ref p7, .int tof, .int tmu, .ref p8, .ref p9, .int bdn, .ref p10, .int snm, .ref p11, .ref p12, .ref p13, .int sdn, .int kcs, .int khr, .int ksn, .ref p14, .ref p15, .ref p16, .ref p17, .long hlg])), (p2, .inl (cI, 15, .inl rd))] := by rw [← ef]; exact h
            have h := h.arr 1 (g := grd st rm cd rd) rfl (fun j _ => by rw [e0]; rfl) rfl
            exact hret (r := 0) () dX8_go_216 h (rfl) (by rw [e0]; rfl)

set_option maxHeartbeats 4000000 in
set_option maxRecDepth 100000 in
theorem c_X8_faultOf (l : Launch) (D : va_G) (cI cZ : ClassId) (kS vS : Nat) (p0 : Nat) (p1 : Nat) (p2 : Nat) (p3 : Nat) (p4 : Nat) (p5 : Nat) (p6 : Nat) (p7 : Nat) (p8 : Nat) (p9 : Nat) (p10 : Nat) (p11 : Nat) (p12 : Nat) (p13 : Nat) (p14 : Nat) (p15 : Nat) (p16 : Nat) (p17 : Nat) (n : Nat) (rdm : Int32) (rdb : Int32) (stt : Int32) (bar : Int32) (hrs : Int32) (crd : Int32) (tof : Int32) (tmu : Int32) (bdn : Int32) (snm : Int32) (sdn : Int32) (kcs : Int32) (khr : Int32) (ksn : Int32) (hlg : Int64) (ps : Nat) (pg : Nat → Nat) (rd : Nat → Int32) (hp24 : ps ≤ 24) (hlt : ∀ j, j < ps → pg j < 127) : CI l yX8_faultOf cX8_faultOf 2 .int D cI cZ kS vS 2 48 0 0 [.ref p0] [(p0, .inr (8, [.ref p1, .int (nI ps), .ref p2, .int rdm, .int rdb, .int stt, .int (nI n), .int bar, .int hrs, .int crd, .ref p3, .ref p4, .ref p5, .ref p6, .ref p7, .int tof, .int tmu, .ref p8, .ref p9, .int bdn, .ref p10, .int snm, .ref p11, .ref p12, .ref p13, .int sdn, .int kcs, .int khr, .int ksn, .ref p14, .ref p15, .ref p16, .ref p17, .long hlg])), (p1, .inl (cI, 24, .inl (ro pg))), (p2, .inl (cI, 15, .inl rd))] (fun (r : Int32) (u : Int32 × Int32 × Int32 × (Nat → Int32)) => r = nI (ff pg ps) ∧ (ff pg ps = ps → u.1 = nI (gR pg ps) ∧ u.2.1 = nI (gS pg ps) ∧ u.2.2.1 = gB pg rdb ps ∧ u.2.2.2 = gD pg rd ps)) (fun (u : Int32 × Int32 × Int32 × (Nat → Int32)) => [(p0, .inr (8, [.ref p1, .int (nI ps), .ref p2, .int u.1, .int u.2.2.1, .int u.2.1, .int (nI n), .int bar, .int hrs, .int crd, .ref p3, .ref p4, .ref p5, .ref p6, .ref p7, .int tof, .int tmu, .ref p8, .ref p9, .int bdn, .ref p10, .int snm, .ref p11, .ref p12, .ref p13, .int sdn, .int kcs, .int khr, .int ksn, .ref p14, .ref p15, .ref p16, .ref p17, .long hlg])), (p1, .inl (cI, 24, .inl (ro pg))), (p2, .inl (cI, 15, .inl u.2.2.2))]) := by
  refine CI_intro (by decide) (Nat.le_of_ble_eq_true rfl) ?_
  intro p e s m args below meth c A Q ls C h hret hl
  have C : CX p s m args c cX8_faultOf 2 RX8 D cI cZ kS vS A := C
  have hx := C.1.1
  have hb := C.1.2.1
  have hl : lv_has ls 2 [(0, .ref p0)] := hl
  refine lv_aload_n hx hb dX8_faultOf_0 rfl (lv_at hl 0 rfl) ?_
  refine lv_iconst (v := 0) hx hb dX8_faultOf_1 (by decide) ?_
  refine r_put C h fk8 0 3 rfl (by decide) mf_RX8_77 rfl (rfl) rfl (Nat.le_of_ble_eq_true rfl) (ws' := [(p0, .inr (8, [.ref p1, .int (nI ps), .ref p2, .int 0, .int rdb, .int stt, .int (nI n), .int bar, .int hrs, .int crd, .ref p3, .ref p4, .ref p5, .ref p6, .ref p7, .int tof, .int tmu, .ref p8, .ref p9, .int bdn, .ref p10, .int snm, .ref p11, .ref p12, .ref p13, .int sdn, .int kcs, .int khr, .int ksn, .ref p14, .ref p15, .ref p16, .ref p17, .long hlg])), (p1, .inl (cI, 24, .inl (ro pg))), (p2, .inl (cI, 15, .inl rd))]) rfl dX8_faultOf_2 (fun H locs h => ?_)
  refine lv_aload_n hx hb dX8_faultOf_5 rfl (lv_at hl 0 rfl) ?_
  refine lv_iconst (v := 0) hx hb dX8_faultOf_6 (by decide) ?_
  refine r_put C h fk8 0 5 rfl (by decide) mf_RX8_74 rfl (rfl) rfl (Nat.le_of_ble_eq_true rfl) (ws' := [(p0, .inr (8, [.ref p1, .int (nI ps), .ref p2, .int 0, .int rdb, .int 0, .int (nI n), .int bar, .int hrs, .int crd, .ref p3, .ref p4, .ref p5, .ref p6, .ref p7, .int tof, .int tmu, .ref p8, .ref p9, .int bdn, .ref p10, .int snm, .ref p11, .ref p12, .ref p13, .int sdn, .int kcs, .int khr, .int ksn, .ref p14, .ref p15, .ref p16, .ref p17, .long hlg])), (p1, .inl (cI, 24, .inl (ro pg))), (p2, .inl (cI, 15, .inl rd))]) rfl dX8_faultOf_7 (fun H locs h => ?_)
  refine lv_iconst (v := 0) hx hb dX8_faultOf_10 (by decide) ?_
  refine lv_istore_n (lv' := [(1, .int 0), (0, .ref p0)]) hx hb dX8_faultOf_11 rfl hl (by decide) rfl (fun ls hl => ?_)
  have L12 : ∀ (fu : Nat) (k : Nat), (ps - k) < fu → (hk0 : k ≤ ps) → (hf : fft pg (ps - k) k = ff pg ps) → (ha : ∀ j, j < k → fitb pg j = true) → ∀ (H : Heap) (locs : List Loc) (ls : Array Slot), HS D A s H locs [(p0, .inr (8, [.ref p1, .int (nI ps), .ref p2, .int (nI (gR pg k)), .int (gB pg rdb k), .int (nI (gS pg k)), .int (nI n), .int bar, .int hrs, .int crd, .ref p3, .ref p4, .ref p5, .ref p6, .ref p7, .int tof, .int tmu, .ref p8, .ref p9, .int bdn, .ref p10, .int snm, .ref p11, .ref p12, .ref p13, .int sdn, .int kcs, .int khr, .int ksn, .ref p14, .ref p15, .ref p16, .ref p17, .long hlg])), (p1, .inl (cI, 24, .inl (ro pg))), (p2, .inl (cI, 15, .inl (gD pg rd k)))] → lv_has ls 2 [(0, .ref p0), (1, .int (nI k))] → W p l e (rmO 2 48 0 0) s m args below meth c H locs 0 0 Q (F0 m 12 ls []) := by
    intro fu
    induction fu with
    | zero => intro k hfu; exact absurd hfu (Nat.not_lt_zero _)
    | succ fu ih12 =>
      intro k hfu hk0 hf ha H locs ls h hl
      refine lv_iload_n hx hb dX8_faultOf_12 rfl (lv_at hl 1 rfl) ?_
      refine lv_aload_n hx hb dX8_faultOf_13 rfl (lv_at hl 0 rfl) ?_
      refine r_get C h fk8 0 1 rfl (by decide) mf_RX8_71 rfl dX8_faultOf_14 ?_
      refine lv_icmp_ge (tgt := 39) hx hb dX8_faultOf_17 (by decide) (fun c_17 => ?_) (fun c_17 => ?_)
      · skip
        have c_17 := (jle (a := ps) (b := k) (by omega) (by omega)).mp c_17
        have ek : k = ps := by omega
        have ef : ff pg ps = ps := by rw [← hf, ek, Nat.sub_self]; rfl
        refine lv_iload_n hx hb dX8_faultOf_39 rfl (lv_at hl 1 rfl) ?_
        exact hret (r := nI k) (⟨nI (gR pg k), nI (gS pg k), gB pg rdb k, gD pg rd k⟩) dX8_faultOf_40 h (rfl) (⟨congrArg nI (ek.trans ef.symm), fun _ => by rw [ek]; exact ⟨rfl, rfl, rfl, rfl⟩⟩)
      · skip
        have c_17 : ¬ ps ≤ k := fun z => c_17 ((jle (a := ps) (b := k) (by omega) (by omega)).mpr z)
        have hk : k < ps := by omega
        have fs := fft_s (pg := pg) hk
        have hcd := hlt k hk
        have eg := gfit_eq ha (by omega)
        have hR6 : gR pg k ≤ 6 := by rw [(gS_eq k ha).2]; omega
        refine lv_aload_n hx hb dX8_faultOf_20 rfl (lv_at hl 0 rfl) ?_
        refine lv_aload_n hx hb dX8_faultOf_21 rfl (lv_at hl 0 rfl) ?_
        refine r_get C h fk8 0 0 rfl (by decide) mf_RX8_7 rfl dX8_faultOf_22 ?_
        refine lv_iload_n hx hb dX8_faultOf_25 rfl (lv_at hl 1 rfl) ?_
        refine r_ld C h 1 rfl k (rfl) (by omega) (by decide) (x := nI (pg k)) (rfl) dX8_faultOf_26 ?_
        refine k_Vi (rest := []) (as := [.int (nI (pg k))]) (wc := [(p0, .inr (8, [.ref p1, .int (nI ps), .ref p2, .int (nI (gR pg k)), .int (gB pg rdb k), .int (nI (gS pg k)), .int (nI n), .int bar, .int hrs, .int crd, .ref p3, .ref p4, .ref p5, .ref p6, .ref p7, .int tof, .int tmu, .ref p8, .ref p9, .int bdn, .ref p10, .int snm, .ref p11, .ref p12, .ref p13, .int sdn, .int kcs, .int khr, .int ksn, .ref p14, .ref p15, .ref p16, .ref p17, .long hlg])), (p2, .inl (cI, 15, .inl (gD pg rd k)))]) (wr := [(p1, .inl (cI, 24, .inl (ro pg)))]) (isC := [0, 2]) (isR := [1]) (w2 := fun (_ : Unit) => [(p0, .inr (8, [.ref p1, .int (nI ps), .ref p2, .int (nI (grm (gS pg k) (gR pg k))), .int (grb (gS pg k) (pg k) (gB pg rdb k)), .int (nI (gst (gS pg k) (pg k))), .int (nI n), .int bar, .int hrs, .int crd, .ref p3, .ref p4, .ref p5, .ref p6, .ref p7, .int tof, .int tmu, .ref p8, .ref p9, .int bdn, .ref p10, .int snm, .ref p11, .ref p12, .ref p13, .int sdn, .int kcs, .int khr, .int ksn, .ref p14, .ref p15, .ref p16, .ref p17, .long hlg])), (p1, .inl (cI, 24, .inl (ro pg))), (p2, .inl (cI, 15, .inl (grd (gS pg k) (gR pg k) (pg k) (gD pg rd k))))]) C h (c_X8_go l D cI cZ kS vS p0 p1 p2 p3 p4 p5 p6 p7 p8 p9 p10 p11 p12 p13 p14 p15 p16 p17 n (nI ps) (gB pg rdb k) bar hrs crd tof tmu bdn snm sdn kcs khr ksn hlg (gS pg k) (gR pg k) (pg k) (gD pg rd k) (gS_le ha) hR6 (gR_4 ha) hcd) wv_X8_go rfl ⟨rfl, rfl, rfl, rfl, by decide⟩ fk8 0 rfl ml_RX8_91 [1, 0, 2] rfl (fun _ => rfl) ⟨Nat.le_of_ble_eq_true rfl, Nat.le_of_ble_eq_true rfl⟩ ⟨Nat.le_of_ble_eq_true rfl, Nat.le_of_ble_eq_true rfl⟩ (Nat.le_of_ble_eq_true rfl) hl rfl dX8_faultOf_27 (fun r u H locs hq h => ?_)
        have h : HS D A s H locs [(p0, .inr (8, [.ref p1, .int (nI ps), .ref p2, .int (nI (grm (gS pg k) (gR pg k))), .int (grb (gS pg k) (pg k) (gB pg rdb k)), .int (nI (gst (gS pg k) (pg k))), .int (nI n), .int bar, .int hrs, .int crd, .ref p3, .ref p4, .ref p5, .ref p6, .ref p7, .int tof, .int tmu, .ref p8, .ref p9, .int bdn, .ref p10, .int snm, .ref p11, .ref p12, .ref p13, .int sdn, .int kcs, .int khr, .int ksn, .ref p14, .ref p15, .ref p16, .ref p17, .long hlg])), (p1, .inl (cI, 24, .inl (ro pg))), (p2, .inl (cI, 15, .inl (grd (gS pg k) (gR pg k) (pg k) (gD pg rd k))))] := h
        have hq : r = bI (gfit (gS pg k) (gR pg k) (pg k)) := hq
        have hq := hq.symm
        subst hq
        refine lv_if_eq (tgt := 39) hx hb dX8_faultOf_30 (by decide) (fun c_30 => ?_) (fun c_30 => ?_)
        · skip
          have hfk : ¬ fitb pg k = true := by rw [← eg, bI_0.mp c_30]; decide
          have ek : ff pg ps = k := hf.symm.trans (fs.trans (if_neg hfk))
          refine lv_iload_n hx hb dX8_faultOf_39 rfl (lv_at hl 1 rfl) ?_
          exact hret (r := nI k) (⟨nI (grm (gS pg k) (gR pg k)), nI (gst (gS pg k) (pg k)), grb (gS pg k) (pg k) (gB pg rdb k), grd (gS pg k) (gR pg k) (pg k) (gD pg rd k)⟩) dX8_faultOf_40 h (rfl) (⟨congrArg nI ek.symm, fun z => absurd (ek.symm.trans z) (by omega)⟩)
        · skip
          have hfk : fitb pg k = true := eg.symm.trans (bI_n0.mp c_30)
          refine lv_iinc (v := nI (k + 1)) (lv' := [(1, .int (nI (k + 1))), (0, .ref p0)]) hx hb dX8_faultOf_33 hl (k := 1) rfl (nI_1 k) (by decide) rfl (fun ls hl => ?_)
          refine lv_goto (tgt := 12) hx hb dX8_faultOf_36 (by decide) ?_
          have h := h.arr 2 (g := gD pg rd (k + 1)) rfl (fun j hj => rfl) rfl
          exact ih12  (k + 1) (by omega) (by first | assumption | omega) ((if_pos hfk).symm.trans (fs.symm.trans hf)) (fun j hj => (Nat.lt_succ_iff_lt_or_eq.mp hj).elim (ha j) (fun e => by rw [e]; exact hfk)) _ _ _ h (lv_sub hl [1, 0] rfl)
  have h := h.arr 2 (g := gD pg rd 0) rfl (fun j hj => rfl) rfl
  exact L12 ((ps - 0) + 1) 0 (by omega) (by first | assumption | omega) rfl (fun j hj => absurd hj (Nat.not_lt_zero j)) _ _ _ h (lv_sub hl [1, 0] rfl)
end
