section
-- ===== PART A: goes FIRST, ahead of the names: the tables' words, and 'selects' of the private methods out of them =====
/-- a private method of a class that the tables say can be made, by its rows of tables_1 -/
def lw_okq (q : MethodName × Nat) : Prop := (q.1.cls ≠ "java/lang/invoke/MethodHandle" ∧ q.1.cls ≠ "java/lang/invoke/VarHandle") ∧ Cond.instantiable q.1.cls q.2 ∈ tables_1 ∧ Cond.privateMethod q.1 ∈ tables_1 ∧ Cond.instanceMethod q.1 ∈ tables_1
theorem lw_p0 : lw_okq (⟨"RiversQueue$Page", "fits", "(I)Z"⟩, 2) := ⟨⟨by decide +kernel, by decide +kernel⟩, List.mem_of_getElem? (i := 27) (by decide +kernel), List.mem_of_getElem? (i := 264) (by decide +kernel), List.mem_of_getElem? (i := 265) (by decide +kernel)⟩
theorem lw_p1 : lw_okq (⟨"RiversQueue$Page", "codeAt", "(I)I"⟩, 2) := ⟨⟨by decide +kernel, by decide +kernel⟩, List.mem_of_getElem? (i := 27) (by decide +kernel), List.mem_of_getElem? (i := 268) (by decide +kernel), List.mem_of_getElem? (i := 269) (by decide +kernel)⟩
theorem lw_p2 : lw_okq (⟨"RiversQueue$Page", "standsBehindEnd", "(I)Z"⟩, 2) := ⟨⟨by decide +kernel, by decide +kernel⟩, List.mem_of_getElem? (i := 27) (by decide +kernel), List.mem_of_getElem? (i := 272) (by decide +kernel), List.mem_of_getElem? (i := 273) (by decide +kernel)⟩
theorem lw_p3 : lw_okq (⟨"RiversQueue$Shore", "pushAll", "()V"⟩, 6) := ⟨⟨by decide +kernel, by decide +kernel⟩, List.mem_of_getElem? (i := 72) (by decide +kernel), List.mem_of_getElem? (i := 442) (by decide +kernel), List.mem_of_getElem? (i := 443) (by decide +kernel)⟩
theorem lw_p4 : lw_okq (⟨"RiversQueue$Shore", "pushes", "(II)Z"⟩, 6) := ⟨⟨by decide +kernel, by decide +kernel⟩, List.mem_of_getElem? (i := 72) (by decide +kernel), List.mem_of_getElem? (i := 446) (by decide +kernel), List.mem_of_getElem? (i := 447) (by decide +kernel)⟩
theorem lw_p5 : lw_okq (⟨"RiversQueue$Shore", "feedSea", "()I"⟩, 6) := ⟨⟨by decide +kernel, by decide +kernel⟩, List.mem_of_getElem? (i := 72) (by decide +kernel), List.mem_of_getElem? (i := 450) (by decide +kernel), List.mem_of_getElem? (i := 451) (by decide +kernel)⟩
theorem lw_p6 : lw_okq (⟨"RiversQueue$Shore", "sendBehindAll", "(I)V"⟩, 6) := ⟨⟨by decide +kernel, by decide +kernel⟩, List.mem_of_getElem? (i := 72) (by decide +kernel), List.mem_of_getElem? (i := 454) (by decide +kernel), List.mem_of_getElem? (i := 455) (by decide +kernel)⟩
theorem lw_p7 : lw_okq (⟨"RiversQueue$Forecast", "isPossible", "(II)Z"⟩, 7) := ⟨⟨by decide +kernel, by decide +kernel⟩, List.mem_of_getElem? (i := 125) (by decide +kernel), List.mem_of_getElem? (i := 463) (by decide +kernel), List.mem_of_getElem? (i := 464) (by decide +kernel)⟩
theorem lw_p8 : lw_okq (⟨"RiversQueue$Forecast", "addTakes", "(I)V"⟩, 7) := ⟨⟨by decide +kernel, by decide +kernel⟩, List.mem_of_getElem? (i := 125) (by decide +kernel), List.mem_of_getElem? (i := 478) (by decide +kernel), List.mem_of_getElem? (i := 479) (by decide +kernel)⟩
theorem lw_p9 : lw_okq (⟨"RiversQueue$Forecast", "hourThatParts", "(I)I"⟩, 7) := ⟨⟨by decide +kernel, by decide +kernel⟩, List.mem_of_getElem? (i := 125) (by decide +kernel), List.mem_of_getElem? (i := 482) (by decide +kernel), List.mem_of_getElem? (i := 483) (by decide +kernel)⟩
theorem lw_p10 : lw_okq (⟨"RiversQueue$Shore", "sumOfRivers", "([I)I"⟩, 6) := ⟨⟨by decide +kernel, by decide +kernel⟩, List.mem_of_getElem? (i := 72) (by decide +kernel), List.mem_of_getElem? (i := 533) (by decide +kernel), List.mem_of_getElem? (i := 534) (by decide +kernel)⟩
theorem lw_p11 : lw_okq (⟨"RiversQueue$BestOrder", "waterBehindOrder", "()I"⟩, 6) := ⟨⟨by decide +kernel, by decide +kernel⟩, List.mem_of_getElem? (i := 169) (by decide +kernel), List.mem_of_getElem? (i := 549) (by decide +kernel), List.mem_of_getElem? (i := 550) (by decide +kernel)⟩
theorem lw_p12 : lw_okq (⟨"RiversQueue$BestOrder", "keepAsFound", "(I)V"⟩, 6) := ⟨⟨by decide +kernel, by decide +kernel⟩, List.mem_of_getElem? (i := 169) (by decide +kernel), List.mem_of_getElem? (i := 557) (by decide +kernel), List.mem_of_getElem? (i := 558) (by decide +kernel)⟩
theorem lw_p13 : lw_okq (⟨"RiversQueue$BestOrder", "goToNextOrder", "()Z"⟩, 6) := ⟨⟨by decide +kernel, by decide +kernel⟩, List.mem_of_getElem? (i := 169) (by decide +kernel), List.mem_of_getElem? (i := 561) (by decide +kernel), List.mem_of_getElem? (i := 562) (by decide +kernel)⟩
theorem lw_p14 : lw_okq (⟨"RiversQueue$BestOrder", "swap", "(II)V"⟩, 6) := ⟨⟨by decide +kernel, by decide +kernel⟩, List.mem_of_getElem? (i := 169) (by decide +kernel), List.mem_of_getElem? (i := 565) (by decide +kernel), List.mem_of_getElem? (i := 566) (by decide +kernel)⟩
theorem lw_p15 : lw_okq (⟨"RiversQueueModel", "faultOf", "()I"⟩, 34) := ⟨⟨by decide +kernel, by decide +kernel⟩, List.mem_of_getElem? (i := 637) (by decide +kernel), List.mem_of_getElem? (i := 762) (by decide +kernel), List.mem_of_getElem? (i := 763) (by decide +kernel)⟩
def lw_privs_1 : List (MethodName × Nat) := [(⟨"RiversQueue$Page", "fits", "(I)Z"⟩, 2), (⟨"RiversQueue$Page", "codeAt", "(I)I"⟩, 2), (⟨"RiversQueue$Page", "standsBehindEnd", "(I)Z"⟩, 2), (⟨"RiversQueue$Shore", "pushAll", "()V"⟩, 6), (⟨"RiversQueue$Shore", "pushes", "(II)Z"⟩, 6), (⟨"RiversQueue$Shore", "feedSea", "()I"⟩, 6), (⟨"RiversQueue$Shore", "sendBehindAll", "(I)V"⟩, 6), (⟨"RiversQueue$Forecast", "isPossible", "(II)Z"⟩, 7), (⟨"RiversQueue$Forecast", "addTakes", "(I)V"⟩, 7), (⟨"RiversQueue$Forecast", "hourThatParts", "(I)I"⟩, 7), (⟨"RiversQueue$Shore", "sumOfRivers", "([I)I"⟩, 6), (⟨"RiversQueue$BestOrder", "waterBehindOrder", "()I"⟩, 6), (⟨"RiversQueue$BestOrder", "keepAsFound", "(I)V"⟩, 6), (⟨"RiversQueue$BestOrder", "goToNextOrder", "()Z"⟩, 6), (⟨"RiversQueue$BestOrder", "swap", "(II)V"⟩, 6), (⟨"RiversQueueModel", "faultOf", "()I"⟩, 34)]
theorem lw_r1 : ∀ q ∈ lw_privs_1, lw_okq q := List.forall_mem_cons.mpr ⟨lw_p0, List.forall_mem_cons.mpr ⟨lw_p1, List.forall_mem_cons.mpr ⟨lw_p2, List.forall_mem_cons.mpr ⟨lw_p3, List.forall_mem_cons.mpr ⟨lw_p4, List.forall_mem_cons.mpr ⟨lw_p5, List.forall_mem_cons.mpr ⟨lw_p6, List.forall_mem_cons.mpr ⟨lw_p7, List.forall_mem_cons.mpr ⟨lw_p8, List.forall_mem_cons.mpr ⟨lw_p9, List.forall_mem_cons.mpr ⟨lw_p10, List.forall_mem_cons.mpr ⟨lw_p11, List.forall_mem_cons.mpr ⟨lw_p12, List.forall_mem_cons.mpr ⟨lw_p13, List.forall_mem_cons.mpr ⟨lw_p14, List.forall_mem_cons.mpr ⟨lw_p15, fun _ h => absurd h List.not_mem_nil⟩⟩⟩⟩⟩⟩⟩⟩⟩⟩⟩⟩⟩⟩⟩⟩
theorem lw_p16 : lw_okq (⟨"RiversQueueModel", "go", "(I)Z"⟩, 34) := ⟨⟨by decide +kernel, by decide +kernel⟩, List.mem_of_getElem? (i := 637) (by decide +kernel), List.mem_of_getElem? (i := 766) (by decide +kernel), List.mem_of_getElem? (i := 767) (by decide +kernel)⟩
theorem lw_p17 : lw_okq (⟨"RiversQueueModel", "isRiver", "(I)Z"⟩, 34) := ⟨⟨by decide +kernel, by decide +kernel⟩, List.mem_of_getElem? (i := 637) (by decide +kernel), List.mem_of_getElem? (i := 783) (by decide +kernel), List.mem_of_getElem? (i := 784) (by decide +kernel)⟩
theorem lw_p18 : lw_okq (⟨"RiversQueueModel", "tell", "(II)I"⟩, 34) := ⟨⟨by decide +kernel, by decide +kernel⟩, List.mem_of_getElem? (i := 637) (by decide +kernel), List.mem_of_getElem? (i := 787) (by decide +kernel), List.mem_of_getElem? (i := 788) (by decide +kernel)⟩
theorem lw_p19 : lw_okq (⟨"RiversQueueModel", "placeOf", "(I)I"⟩, 34) := ⟨⟨by decide +kernel, by decide +kernel⟩, List.mem_of_getElem? (i := 637) (by decide +kernel), List.mem_of_getElem? (i := 791) (by decide +kernel), List.mem_of_getElem? (i := 792) (by decide +kernel)⟩
theorem lw_p20 : lw_okq (⟨"RiversQueueModel", "waitsOf", "(I)I"⟩, 34) := ⟨⟨by decide +kernel, by decide +kernel⟩, List.mem_of_getElem? (i := 637) (by decide +kernel), List.mem_of_getElem? (i := 795) (by decide +kernel), List.mem_of_getElem? (i := 796) (by decide +kernel)⟩
theorem lw_p21 : lw_okq (⟨"RiversQueueModel", "layAside", "()V"⟩, 34) := ⟨⟨by decide +kernel, by decide +kernel⟩, List.mem_of_getElem? (i := 637) (by decide +kernel), List.mem_of_getElem? (i := 799) (by decide +kernel), List.mem_of_getElem? (i := 800) (by decide +kernel)⟩
theorem lw_p22 : lw_okq (⟨"RiversQueueModel", "goesBy", "()V"⟩, 34) := ⟨⟨by decide +kernel, by decide +kernel⟩, List.mem_of_getElem? (i := 637) (by decide +kernel), List.mem_of_getElem? (i := 806) (by decide +kernel), List.mem_of_getElem? (i := 807) (by decide +kernel)⟩
theorem lw_p23 : lw_okq (⟨"RiversQueueModel", "pushes", "(II)Z"⟩, 34) := ⟨⟨by decide +kernel, by decide +kernel⟩, List.mem_of_getElem? (i := 637) (by decide +kernel), List.mem_of_getElem? (i := 810) (by decide +kernel), List.mem_of_getElem? (i := 811) (by decide +kernel)⟩
theorem lw_p24 : lw_okq (⟨"RiversQueueModel", "goBehind", "(I)V"⟩, 34) := ⟨⟨by decide +kernel, by decide +kernel⟩, List.mem_of_getElem? (i := 637) (by decide +kernel), List.mem_of_getElem? (i := 814) (by decide +kernel), List.mem_of_getElem? (i := 815) (by decide +kernel)⟩
theorem lw_p25 : lw_okq (⟨"RiversQueueModel", "layBack", "()V"⟩, 34) := ⟨⟨by decide +kernel, by decide +kernel⟩, List.mem_of_getElem? (i := 637) (by decide +kernel), List.mem_of_getElem? (i := 818) (by decide +kernel), List.mem_of_getElem? (i := 819) (by decide +kernel)⟩
theorem lw_p26 : lw_okq (⟨"RiversQueueModel", "muchOf", "(I)I"⟩, 34) := ⟨⟨by decide +kernel, by decide +kernel⟩, List.mem_of_getElem? (i := 637) (by decide +kernel), List.mem_of_getElem? (i := 822) (by decide +kernel), List.mem_of_getElem? (i := 823) (by decide +kernel)⟩
theorem lw_p27 : lw_okq (⟨"RiversQueueModel", "layThen", "(II)V"⟩, 34) := ⟨⟨by decide +kernel, by decide +kernel⟩, List.mem_of_getElem? (i := 637) (by decide +kernel), List.mem_of_getElem? (i := 826) (by decide +kernel), List.mem_of_getElem? (i := 827) (by decide +kernel)⟩
theorem lw_p28 : lw_okq (⟨"RiversQueueModel", "lookOf", "(I)I"⟩, 34) := ⟨⟨by decide +kernel, by decide +kernel⟩, List.mem_of_getElem? (i := 637) (by decide +kernel), List.mem_of_getElem? (i := 830) (by decide +kernel), List.mem_of_getElem? (i := 831) (by decide +kernel)⟩
theorem lw_p29 : lw_okq (⟨"RiversQueueModel", "lacks", "()Z"⟩, 34) := ⟨⟨by decide +kernel, by decide +kernel⟩, List.mem_of_getElem? (i := 637) (by decide +kernel), List.mem_of_getElem? (i := 847) (by decide +kernel), List.mem_of_getElem? (i := 848) (by decide +kernel)⟩
theorem lw_p30 : lw_okq (⟨"RiversQueueModel", "rains", "(II)I"⟩, 34) := ⟨⟨by decide +kernel, by decide +kernel⟩, List.mem_of_getElem? (i := 637) (by decide +kernel), List.mem_of_getElem? (i := 856) (by decide +kernel), List.mem_of_getElem? (i := 857) (by decide +kernel)⟩
theorem lw_p31 : lw_okq (⟨"RiversQueueModel", "wideOf", "(II)I"⟩, 34) := ⟨⟨by decide +kernel, by decide +kernel⟩, List.mem_of_getElem? (i := 637) (by decide +kernel), List.mem_of_getElem? (i := 869) (by decide +kernel), List.mem_of_getElem? (i := 870) (by decide +kernel)⟩
def lw_privs_2 : List (MethodName × Nat) := [(⟨"RiversQueueModel", "go", "(I)Z"⟩, 34), (⟨"RiversQueueModel", "isRiver", "(I)Z"⟩, 34), (⟨"RiversQueueModel", "tell", "(II)I"⟩, 34), (⟨"RiversQueueModel", "placeOf", "(I)I"⟩, 34), (⟨"RiversQueueModel", "waitsOf", "(I)I"⟩, 34), (⟨"RiversQueueModel", "layAside", "()V"⟩, 34), (⟨"RiversQueueModel", "goesBy", "()V"⟩, 34), (⟨"RiversQueueModel", "pushes", "(II)Z"⟩, 34), (⟨"RiversQueueModel", "goBehind", "(I)V"⟩, 34), (⟨"RiversQueueModel", "layBack", "()V"⟩, 34), (⟨"RiversQueueModel", "muchOf", "(I)I"⟩, 34), (⟨"RiversQueueModel", "layThen", "(II)V"⟩, 34), (⟨"RiversQueueModel", "lookOf", "(I)I"⟩, 34), (⟨"RiversQueueModel", "lacks", "()Z"⟩, 34), (⟨"RiversQueueModel", "rains", "(II)I"⟩, 34), (⟨"RiversQueueModel", "wideOf", "(II)I"⟩, 34)]
theorem lw_r2 : ∀ q ∈ lw_privs_2, lw_okq q := List.forall_mem_cons.mpr ⟨lw_p16, List.forall_mem_cons.mpr ⟨lw_p17, List.forall_mem_cons.mpr ⟨lw_p18, List.forall_mem_cons.mpr ⟨lw_p19, List.forall_mem_cons.mpr ⟨lw_p20, List.forall_mem_cons.mpr ⟨lw_p21, List.forall_mem_cons.mpr ⟨lw_p22, List.forall_mem_cons.mpr ⟨lw_p23, List.forall_mem_cons.mpr ⟨lw_p24, List.forall_mem_cons.mpr ⟨lw_p25, List.forall_mem_cons.mpr ⟨lw_p26, List.forall_mem_cons.mpr ⟨lw_p27, List.forall_mem_cons.mpr ⟨lw_p28, List.forall_mem_cons.mpr ⟨lw_p29, List.forall_mem_cons.mpr ⟨lw_p30, List.forall_mem_cons.mpr ⟨lw_p31, fun _ h => absurd h List.not_mem_nil⟩⟩⟩⟩⟩⟩⟩⟩⟩⟩⟩⟩⟩⟩⟩⟩
theorem lw_p32 : lw_okq (⟨"RiversQueueModel", "standing", "()I"⟩, 34) := ⟨⟨by decide +kernel, by decide +kernel⟩, List.mem_of_getElem? (i := 637) (by decide +kernel), List.mem_of_getElem? (i := 873) (by decide +kernel), List.mem_of_getElem? (i := 874) (by decide +kernel)⟩
theorem lw_p33 : lw_okq (⟨"RiversQueueModel", "layBest", "()I"⟩, 34) := ⟨⟨by decide +kernel, by decide +kernel⟩, List.mem_of_getElem? (i := 637) (by decide +kernel), List.mem_of_getElem? (i := 883) (by decide +kernel), List.mem_of_getElem? (i := 884) (by decide +kernel)⟩
theorem lw_p34 : lw_okq (⟨"RiversQueueModel", "layStands", "(I)Z"⟩, 34) := ⟨⟨by decide +kernel, by decide +kernel⟩, List.mem_of_getElem? (i := 637) (by decide +kernel), List.mem_of_getElem? (i := 887) (by decide +kernel), List.mem_of_getElem? (i := 888) (by decide +kernel)⟩
theorem lw_p35 : lw_okq (⟨"RiversQueueModel", "draw", "(I)I"⟩, 34) := ⟨⟨by decide +kernel, by decide +kernel⟩, List.mem_of_getElem? (i := 637) (by decide +kernel), List.mem_of_getElem? (i := 905) (by decide +kernel), List.mem_of_getElem? (i := 906) (by decide +kernel)⟩
theorem lw_p36 : lw_okq (⟨"RiversQueueModel", "countOf", "(I)I"⟩, 34) := ⟨⟨by decide +kernel, by decide +kernel⟩, List.mem_of_getElem? (i := 637) (by decide +kernel), List.mem_of_getElem? (i := 925) (by decide +kernel), List.mem_of_getElem? (i := 926) (by decide +kernel)⟩
theorem lw_p37 : lw_okq (⟨"RiversQueueModel", "takenAll", "()I"⟩, 34) := ⟨⟨by decide +kernel, by decide +kernel⟩, List.mem_of_getElem? (i := 637) (by decide +kernel), List.mem_of_getElem? (i := 929) (by decide +kernel), List.mem_of_getElem? (i := 930) (by decide +kernel)⟩
theorem lw_p38 : lw_okq (⟨"RiversQueueModel", "say", "(J)V"⟩, 34) := ⟨⟨by decide +kernel, by decide +kernel⟩, List.mem_of_getElem? (i := 637) (by decide +kernel), List.mem_of_getElem? (i := 938) (by decide +kernel), List.mem_of_getElem? (i := 939) (by decide +kernel)⟩
def lw_privs_3 : List (MethodName × Nat) := [(⟨"RiversQueueModel", "standing", "()I"⟩, 34), (⟨"RiversQueueModel", "layBest", "()I"⟩, 34), (⟨"RiversQueueModel", "layStands", "(I)Z"⟩, 34), (⟨"RiversQueueModel", "draw", "(I)I"⟩, 34), (⟨"RiversQueueModel", "countOf", "(I)I"⟩, 34), (⟨"RiversQueueModel", "takenAll", "()I"⟩, 34), (⟨"RiversQueueModel", "say", "(J)V"⟩, 34)]
theorem lw_r3 : ∀ q ∈ lw_privs_3, lw_okq q := List.forall_mem_cons.mpr ⟨lw_p32, List.forall_mem_cons.mpr ⟨lw_p33, List.forall_mem_cons.mpr ⟨lw_p34, List.forall_mem_cons.mpr ⟨lw_p35, List.forall_mem_cons.mpr ⟨lw_p36, List.forall_mem_cons.mpr ⟨lw_p37, List.forall_mem_cons.mpr ⟨lw_p38, fun _ h => absurd h List.not_mem_nil⟩⟩⟩⟩⟩⟩⟩
def lw_privs : List (MethodName × Nat) := lw_privs_1 ++ (lw_privs_2 ++ (lw_privs_3))
def lw_tbl : List Cond := k2_sels lw_privs ++ tables_1
theorem lw_privs_ok : ∀ q ∈ lw_privs, lw_okq q := by
  show ∀ q ∈ lw_privs_1 ++ (lw_privs_2 ++ (lw_privs_3)), lw_okq q
  exact List.forall_mem_append.mpr ⟨lw_r1, List.forall_mem_append.mpr ⟨lw_r2, lw_r3⟩⟩
end
section
/-! ===== BEGIN words of one list among another's, by their places ===== -/
theorem goodIn_r {big : List Cond} (ws : List Cond) (ps : List Nat) (hp : ws = ps.filterMap (fun i => big[i]?)) (h : ws.all goodWord = true) : GoodIn big ws := by
  intro w hw
  have h1 := List.all_eq_true.mp h w hw
  rw [hp] at hw
  obtain ⟨i, -, hi⟩ := List.mem_filterMap.mp hw
  have hm : w ∈ big := by first | exact List.mem_of_getElem? hi | exact List.getElem?_mem hi
  exact ⟨hm, good_of_word h1⟩
theorem goodIn_app {big a b : List Cond} (ha : GoodIn big a) (hb : GoodIn big b) : GoodIn big (a ++ b) := fun w h => (List.mem_append.mp h).elim (ha w) (hb w)
theorem goodIn_ca {big a b : List Cond} {c : Cond} (ha : GoodIn big (c :: a)) (hb : GoodIn big b) : GoodIn big (c :: (a ++ b)) := fun w h => (List.mem_cons.mp h).elim (fun e => ha w (List.mem_cons.mpr (Or.inl e))) (fun h => (List.mem_append.mp h).elim (fun h => ha w (List.mem_cons.mpr (Or.inr h))) (hb w))
theorem goodIn_sub {big ws : List Cond} (hm : ∀ w ∈ ws, w ∈ big) (h : ws.all goodWord = true) : GoodIn big ws := fun w hw => ⟨hm w hw, good_of_word (List.all_eq_true.mp h w hw)⟩
/-! ===== END ===== -/

/-! ===== names ===== -/
def RX0 : String := "RiversQueue$BestOrder"
def TX0 : u_T := fun k => match k with
  | 0 => ("RiversQueue$BestOrder", "coast", "LRiversQueue$Coast;", true)
  | 1 => ("RiversQueue$BestOrder", "now", "LRiversQueue$Shore;", true)
  | 2 => ("RiversQueue$BestOrder", "trial", "LRiversQueue$Shore;", true)
  | 3 => ("RiversQueue$BestOrder", "order", "[I", true)
  | 4 => ("RiversQueue$BestOrder", "found", "[I", true)
  | _ => ("RiversQueue$BestOrder", "least", "I", false)
def tyX0 : Nat → FieldType := fun k => match k with
  | 0 => .object "RiversQueue$Coast"
  | 1 => .object "RiversQueue$Shore"
  | 2 => .object "RiversQueue$Shore"
  | 3 => .array .int
  | 4 => .array .int
  | _ => .int
abbrev wsX00 : List Cond := u_ws RX0 TX0 6
theorem nmX0 : ∀ a, a < 6 → ∀ b, b < 6 → a ≠ b → (TX0 a).2.1 ≠ (TX0 b).2.1 := by decide +kernel
theorem tyX0_ok : ∀ k, k < 6 → parseFieldDescriptor (TX0 k).2.2.1 = some (tyX0 k) := by decide +kernel
abbrev cX0_init : ByteArray := prog_2_method_1_code
def yX0_init : MethodName := ⟨RX0, "<init>", "(LRiversQueue$Coast;LRiversQueue$Shore;)V"⟩
abbrev cX0_find : ByteArray := prog_2_method_2_code
def yX0_find : MethodName := ⟨RX0, "find", "()V"⟩
abbrev cX0_keepAsFound : ByteArray := prog_2_method_3_code
def yX0_keepAsFound : MethodName := ⟨RX0, "keepAsFound", "(I)V"⟩
abbrev cX0_waterBehindOrder : ByteArray := prog_2_method_4_code
def yX0_waterBehindOrder : MethodName := ⟨RX0, "waterBehindOrder", "()I"⟩
abbrev cX0_goToNextOrder : ByteArray := prog_2_method_5_code
def yX0_goToNextOrder : MethodName := ⟨RX0, "goToNextOrder", "()Z"⟩
abbrev cX0_swap : ByteArray := prog_2_method_6_code
def yX0_swap : MethodName := ⟨RX0, "swap", "(II)V"⟩
def RX1 : String := "RiversQueue$Coast"
def TX1 : u_T := fun k => match k with
  | 0 => ("RiversQueue$Coast", "kinds", "[I", true)
  | 1 => ("RiversQueue$Coast", "flows", "[I", true)
  | 2 => ("RiversQueue$Coast", "rivers", "I", false)
  | _ => ("RiversQueue$Coast", "bar", "I", false)
def tyX1 : Nat → FieldType := fun k => match k with
  | 0 => .array .int
  | 1 => .array .int
  | 2 => .int
  | _ => .int
abbrev wsX10 : List Cond := u_ws RX1 TX1 4
theorem nmX1 : ∀ a, a < 4 → ∀ b, b < 4 → a ≠ b → (TX1 a).2.1 ≠ (TX1 b).2.1 := by decide +kernel
theorem tyX1_ok : ∀ k, k < 4 → parseFieldDescriptor (TX1 k).2.2.1 = some (tyX1 k) := by decide +kernel
abbrev cX1_init : ByteArray := prog_3_method_1_code
def yX1_init : MethodName := ⟨RX1, "<init>", "()V"⟩
abbrev cX1_readFrom : ByteArray := prog_3_method_2_code
def yX1_readFrom : MethodName := ⟨RX1, "readFrom", "(LRiversQueue$Page;)V"⟩
abbrev cX1_isRead : ByteArray := prog_3_method_3_code
def yX1_isRead : MethodName := ⟨RX1, "isRead", "()Z"⟩
abbrev cX1_hasRiver : ByteArray := prog_3_method_4_code
def yX1_hasRiver : MethodName := ⟨RX1, "hasRiver", "(I)Z"⟩
def RX2 : String := "RiversQueue$Draws"
def TX2 : u_T := fun k => match k with
  | _ => ("RiversQueue$Draws", "seed", "I", false)
def tyX2 : Nat → FieldType := fun k => match k with
  | _ => .int
abbrev wsX20 : List Cond := u_ws RX2 TX2 1
theorem nmX2 : ∀ a, a < 1 → ∀ b, b < 1 → a ≠ b → (TX2 a).2.1 ≠ (TX2 b).2.1 := by decide +kernel
theorem tyX2_ok : ∀ k, k < 1 → parseFieldDescriptor (TX2 k).2.2.1 = some (tyX2 k) := by decide +kernel
abbrev cX2_init : ByteArray := prog_4_method_1_code
def yX2_init : MethodName := ⟨RX2, "<init>", "()V"⟩
abbrev cX2_next : ByteArray := prog_4_method_2_code
def yX2_next : MethodName := ⟨RX2, "next", "(I)I"⟩
def RX3 : String := "RiversQueue$Forecast"
def TX3 : u_T := fun k => match k with
  | 0 => ("RiversQueue$Forecast", "coast", "LRiversQueue$Coast;", true)
  | 1 => ("RiversQueue$Forecast", "now", "LRiversQueue$Shore;", true)
  | 2 => ("RiversQueue$Forecast", "seen", "LRiversQueue$Sightings;", true)
  | 3 => ("RiversQueue$Forecast", "trial", "LRiversQueue$Shore;", true)
  | 4 => ("RiversQueue$Forecast", "draws", "LRiversQueue$Draws;", true)
  | 5 => ("RiversQueue$Forecast", "takenOf", "[I", true)
  | _ => ("RiversQueue$Forecast", "takes", "[I", true)
def tyX3 : Nat → FieldType := fun k => match k with
  | 0 => .object "RiversQueue$Coast"
  | 1 => .object "RiversQueue$Shore"
  | 2 => .object "RiversQueue$Sightings"
  | 3 => .object "RiversQueue$Shore"
  | 4 => .object "RiversQueue$Draws"
  | 5 => .array .int
  | _ => .array .int
abbrev wsX30 : List Cond := u_ws RX3 TX3 7
theorem nmX3 : ∀ a, a < 7 → ∀ b, b < 7 → a ≠ b → (TX3 a).2.1 ≠ (TX3 b).2.1 := by decide +kernel
theorem tyX3_ok : ∀ k, k < 7 → parseFieldDescriptor (TX3 k).2.2.1 = some (tyX3 k) := by decide +kernel
abbrev cX3_init : ByteArray := prog_5_method_1_code
def yX3_init : MethodName := ⟨RX3, "<init>", "(LRiversQueue$Coast;LRiversQueue$Shore;LRiversQueue$Sightings;)V"⟩
abbrev cX3_waitsOf : ByteArray := prog_5_method_2_code
def yX3_waitsOf : MethodName := ⟨RX3, "waitsOf", "(I)I"⟩
abbrev cX3_widestHour : ByteArray := prog_5_method_3_code
def yX3_widestHour : MethodName := ⟨RX3, "widestHour", "(I)I"⟩
abbrev cX3_waterBehind : ByteArray := prog_5_method_4_code
def yX3_waterBehind : MethodName := ⟨RX3, "waterBehind", "(I)I"⟩
abbrev cX3_possibleWaters : ByteArray := prog_5_method_5_code
def yX3_possibleWaters : MethodName := ⟨RX3, "possibleWaters", "(I)I"⟩
abbrev cX3_hourToLook : ByteArray := prog_5_method_6_code
def yX3_hourToLook : MethodName := ⟨RX3, "hourToLook", "(I)I"⟩
abbrev cX3_passSeasons : ByteArray := prog_5_method_7_code
def yX3_passSeasons : MethodName := ⟨RX3, "passSeasons", "(II)I"⟩
abbrev cX3_addTakes : ByteArray := prog_5_method_8_code
def yX3_addTakes : MethodName := ⟨RX3, "addTakes", "(I)V"⟩
abbrev cX3_hourThatParts : ByteArray := prog_5_method_9_code
def yX3_hourThatParts : MethodName := ⟨RX3, "hourThatParts", "(I)I"⟩
abbrev cX3_isPossible : ByteArray := prog_5_method_10_code
def yX3_isPossible : MethodName := ⟨RX3, "isPossible", "(II)Z"⟩
def RX4 : String := "RiversQueue$Page"
def TX4 : u_T := fun k => match k with
  | 0 => ("RiversQueue$Page", "letters", "[I", true)
  | _ => ("RiversQueue$Page", "size", "I", false)
def tyX4 : Nat → FieldType := fun k => match k with
  | 0 => .array .int
  | _ => .int
abbrev wsX40 : List Cond := u_ws RX4 TX4 2
theorem nmX4 : ∀ a, a < 2 → ∀ b, b < 2 → a ≠ b → (TX4 a).2.1 ≠ (TX4 b).2.1 := by decide +kernel
theorem tyX4_ok : ∀ k, k < 2 → parseFieldDescriptor (TX4 k).2.2.1 = some (tyX4 k) := by decide +kernel
abbrev cX4_init : ByteArray := prog_6_method_1_code
def yX4_init : MethodName := ⟨RX4, "<init>", "()V"⟩
abbrev cX4_isFull : ByteArray := prog_6_method_2_code
def yX4_isFull : MethodName := ⟨RX4, "isFull", "()Z"⟩
abbrev cX4_write : ByteArray := prog_6_method_3_code
def yX4_write : MethodName := ⟨RX4, "write", "(I)I"⟩
abbrev cX4_clear : ByteArray := prog_6_method_4_code
def yX4_clear : MethodName := ⟨RX4, "clear", "()I"⟩
abbrev cX4_firstFault : ByteArray := prog_6_method_5_code
def yX4_firstFault : MethodName := ⟨RX4, "firstFault", "()I"⟩
abbrev cX4_holdsCoast : ByteArray := prog_6_method_6_code
def yX4_holdsCoast : MethodName := ⟨RX4, "holdsCoast", "()Z"⟩
abbrev cX4_rivers : ByteArray := prog_6_method_7_code
def yX4_rivers : MethodName := ⟨RX4, "rivers", "()I"⟩
abbrev cX4_kindAt : ByteArray := prog_6_method_8_code
def yX4_kindAt : MethodName := ⟨RX4, "kindAt", "(I)I"⟩
abbrev cX4_waterAt : ByteArray := prog_6_method_9_code
def yX4_waterAt : MethodName := ⟨RX4, "waterAt", "(I)I"⟩
abbrev cX4_flowAt : ByteArray := prog_6_method_10_code
def yX4_flowAt : MethodName := ⟨RX4, "flowAt", "(I)I"⟩
abbrev cX4_lastDigit : ByteArray := prog_6_method_11_code
def yX4_lastDigit : MethodName := ⟨RX4, "lastDigit", "()I"⟩
abbrev cX4_fits : ByteArray := prog_6_method_12_code
def yX4_fits : MethodName := ⟨RX4, "fits", "(I)Z"⟩
abbrev cX4_fitsBehindRiver : ByteArray := prog_6_method_13_code
def yX4_fitsBehindRiver : MethodName := ⟨RX4, "fitsBehindRiver", "(II)Z"⟩
abbrev cX4_standsBehindEnd : ByteArray := prog_6_method_14_code
def yX4_standsBehindEnd : MethodName := ⟨RX4, "standsBehindEnd", "(I)Z"⟩
abbrev cX4_codeAt : ByteArray := prog_6_method_15_code
def yX4_codeAt : MethodName := ⟨RX4, "codeAt", "(I)I"⟩
def RX5 : String := "RiversQueue$Shore"
def TX5 : u_T := fun k => match k with
  | 0 => ("RiversQueue$Shore", "coast", "LRiversQueue$Coast;", true)
  | 1 => ("RiversQueue$Shore", "water", "[I", true)
  | 2 => ("RiversQueue$Shore", "took", "[I", true)
  | 3 => ("RiversQueue$Shore", "row", "[I", true)
  | 4 => ("RiversQueue$Shore", "hours", "I", false)
  | _ => ("RiversQueue$Shore", "takenOf", "I", false)
def tyX5 : Nat → FieldType := fun k => match k with
  | 0 => .object "RiversQueue$Coast"
  | 1 => .array .int
  | 2 => .array .int
  | 3 => .array .int
  | 4 => .int
  | _ => .int
abbrev wsX50 : List Cond := u_ws RX5 TX5 6
theorem nmX5 : ∀ a, a < 6 → ∀ b, b < 6 → a ≠ b → (TX5 a).2.1 ≠ (TX5 b).2.1 := by decide +kernel
theorem tyX5_ok : ∀ k, k < 6 → parseFieldDescriptor (TX5 k).2.2.1 = some (tyX5 k) := by decide +kernel
abbrev cX5_init : ByteArray := prog_7_method_1_code
def yX5_init : MethodName := ⟨RX5, "<init>", "(LRiversQueue$Coast;)V"⟩
abbrev cX5_beginAs : ByteArray := prog_7_method_2_code
def yX5_beginAs : MethodName := ⟨RX5, "beginAs", "(LRiversQueue$Page;)V"⟩
abbrev cX5_copyFrom : ByteArray := prog_7_method_3_code
def yX5_copyFrom : MethodName := ⟨RX5, "copyFrom", "(LRiversQueue$Shore;)V"⟩
abbrev cX5_waterInAll : ByteArray := prog_7_method_4_code
def yX5_waterInAll : MethodName := ⟨RX5, "waterInAll", "()I"⟩
abbrev cX5_tookInAll : ByteArray := prog_7_method_5_code
def yX5_tookInAll : MethodName := ⟨RX5, "tookInAll", "()I"⟩
abbrev cX5_placeOf : ByteArray := prog_7_method_6_code
def yX5_placeOf : MethodName := ⟨RX5, "placeOf", "(I)I"⟩
abbrev cX5_passHour : ByteArray := prog_7_method_7_code
def yX5_passHour : MethodName := ⟨RX5, "passHour", "()I"⟩
abbrev cX5_addWater : ByteArray := prog_7_method_8_code
def yX5_addWater : MethodName := ⟨RX5, "addWater", "(II)I"⟩
abbrev cX5_dryUp : ByteArray := prog_7_method_9_code
def yX5_dryUp : MethodName := ⟨RX5, "dryUp", "(I)I"⟩
abbrev cX5_pushAll : ByteArray := prog_7_method_10_code
def yX5_pushAll : MethodName := ⟨RX5, "pushAll", "()V"⟩
abbrev cX5_pushes : ByteArray := prog_7_method_11_code
def yX5_pushes : MethodName := ⟨RX5, "pushes", "(II)Z"⟩
abbrev cX5_feedSea : ByteArray := prog_7_method_12_code
def yX5_feedSea : MethodName := ⟨RX5, "feedSea", "()I"⟩
abbrev cX5_sendBehindAll : ByteArray := prog_7_method_13_code
def yX5_sendBehindAll : MethodName := ⟨RX5, "sendBehindAll", "(I)V"⟩
abbrev cX5_sumOfRivers : ByteArray := prog_7_method_14_code
def yX5_sumOfRivers : MethodName := ⟨RX5, "sumOfRivers", "([I)I"⟩
def RX6 : String := "RiversQueue$Sightings"
def TX6 : u_T := fun k => match k with
  | 0 => ("RiversQueue$Sightings", "hours", "[I", true)
  | 1 => ("RiversQueue$Sightings", "rivers", "[I", true)
  | 2 => ("RiversQueue$Sightings", "taken", "[Z", true)
  | _ => ("RiversQueue$Sightings", "size", "I", false)
def tyX6 : Nat → FieldType := fun k => match k with
  | 0 => .array .int
  | 1 => .array .int
  | 2 => .array .boolean
  | _ => .int
abbrev wsX60 : List Cond := u_ws RX6 TX6 4
theorem nmX6 : ∀ a, a < 4 → ∀ b, b < 4 → a ≠ b → (TX6 a).2.1 ≠ (TX6 b).2.1 := by decide +kernel
theorem tyX6_ok : ∀ k, k < 4 → parseFieldDescriptor (TX6 k).2.2.1 = some (tyX6 k) := by decide +kernel
abbrev cX6_init : ByteArray := prog_8_method_1_code
def yX6_init : MethodName := ⟨RX6, "<init>", "()V"⟩
abbrev cX6_isFull : ByteArray := prog_8_method_2_code
def yX6_isFull : MethodName := ⟨RX6, "isFull", "()Z"⟩
abbrev cX6_add : ByteArray := prog_8_method_3_code
def yX6_add : MethodName := ⟨RX6, "add", "(IIZ)I"⟩
abbrev cX6_clear : ByteArray := prog_8_method_4_code
def yX6_clear : MethodName := ⟨RX6, "clear", "()I"⟩
abbrev cX6_copyFrom : ByteArray := prog_8_method_5_code
def yX6_copyFrom : MethodName := ⟨RX6, "copyFrom", "(LRiversQueue$Sightings;)V"⟩
abbrev cX6_agreeWith : ByteArray := prog_8_method_6_code
def yX6_agreeWith : MethodName := ⟨RX6, "agreeWith", "([I)Z"⟩
def RX7 : String := "RiversQueue"
def TX7 : u_T := fun k => match k with
  | 0 => ("RiversQueue", "page", "LRiversQueue$Page;", true)
  | 1 => ("RiversQueue", "coast", "LRiversQueue$Coast;", true)
  | 2 => ("RiversQueue", "now", "LRiversQueue$Shore;", true)
  | 3 => ("RiversQueue", "seen", "LRiversQueue$Sightings;", true)
  | 4 => ("RiversQueue", "keptShore", "LRiversQueue$Shore;", true)
  | 5 => ("RiversQueue", "keptSeen", "LRiversQueue$Sightings;", true)
  | 6 => ("RiversQueue", "forecast", "LRiversQueue$Forecast;", true)
  | 7 => ("RiversQueue", "bestOrder", "LRiversQueue$BestOrder;", true)
  | 8 => ("RiversQueue", "imageKept", "Z", false)
  | 9 => ("RiversQueue", "coastsRead", "I", false)
  | _ => ("RiversQueue", "bestsDone", "I", false)
def tyX7 : Nat → FieldType := fun k => match k with
  | 0 => .object "RiversQueue$Page"
  | 1 => .object "RiversQueue$Coast"
  | 2 => .object "RiversQueue$Shore"
  | 3 => .object "RiversQueue$Sightings"
  | 4 => .object "RiversQueue$Shore"
  | 5 => .object "RiversQueue$Sightings"
  | 6 => .object "RiversQueue$Forecast"
  | 7 => .object "RiversQueue$BestOrder"
  | 8 => .boolean
  | 9 => .int
  | _ => .int
abbrev wsX70 : List Cond := u_ws RX7 TX7 11
theorem nmX7 : ∀ a, a < 11 → ∀ b, b < 11 → a ≠ b → (TX7 a).2.1 ≠ (TX7 b).2.1 := by decide +kernel
theorem tyX7_ok : ∀ k, k < 11 → parseFieldDescriptor (TX7 k).2.2.1 = some (tyX7 k) := by decide +kernel
abbrev cX7_init : ByteArray := prog_1_method_1_code
def yX7_init : MethodName := ⟨RX7, "<init>", "()V"⟩
abbrev cX7_letter : ByteArray := prog_1_method_2_code
def yX7_letter : MethodName := ⟨RX7, "letter", "(I)I"⟩
abbrev cX7_blank : ByteArray := prog_1_method_3_code
def yX7_blank : MethodName := ⟨RX7, "blank", "()I"⟩
abbrev cX7_fault : ByteArray := prog_1_method_4_code
def yX7_fault : MethodName := ⟨RX7, "fault", "()I"⟩
abbrev cX7_coast : ByteArray := prog_1_method_5_code
def yX7_coast : MethodName := ⟨RX7, "coast", "()I"⟩
abbrev cX7_river : ByteArray := prog_1_method_6_code
def yX7_river : MethodName := ⟨RX7, "river", "(II)I"⟩
abbrev cX7_as : ByteArray := prog_1_method_7_code
def yX7_as : MethodName := ⟨RX7, "as", "(II)I"⟩
abbrev cX7_row : ByteArray := prog_1_method_8_code
def yX7_row : MethodName := ⟨RX7, "row", "(I)I"⟩
abbrev cX7_hour : ByteArray := prog_1_method_9_code
def yX7_hour : MethodName := ⟨RX7, "hour", "()I"⟩
abbrev cX7_rain : ByteArray := prog_1_method_10_code
def yX7_rain : MethodName := ⟨RX7, "rain", "(II)I"⟩
abbrev cX7_drought : ByteArray := prog_1_method_11_code
def yX7_drought : MethodName := ⟨RX7, "drought", "(I)I"⟩
abbrev cX7_wide : ByteArray := prog_1_method_12_code
def yX7_wide : MethodName := ⟨RX7, "wide", "(II)I"⟩
abbrev cX7_best : ByteArray := prog_1_method_13_code
def yX7_best : MethodName := ⟨RX7, "best", "(I)I"⟩
abbrev cX7_see : ByteArray := prog_1_method_14_code
def yX7_see : MethodName := ⟨RX7, "see", "(IIZ)I"⟩
abbrev cX7_forget : ByteArray := prog_1_method_15_code
def yX7_forget : MethodName := ⟨RX7, "forget", "()I"⟩
abbrev cX7_seasons : ByteArray := prog_1_method_16_code
def yX7_seasons : MethodName := ⟨RX7, "seasons", "(III)I"⟩
abbrev cX7_image : ByteArray := prog_1_method_17_code
def yX7_image : MethodName := ⟨RX7, "image", "()I"⟩
abbrev cX7_restore : ByteArray := prog_1_method_18_code
def yX7_restore : MethodName := ⟨RX7, "restore", "()I"⟩
abbrev cX7_count : ByteArray := prog_1_method_19_code
def yX7_count : MethodName := ⟨RX7, "count", "(I)I"⟩
abbrev cX7_digest : ByteArray := prog_1_method_20_code
def yX7_digest : MethodName := ⟨RX7, "digest", "()J"⟩
abbrev cX7_mixed : ByteArray := prog_1_method_21_code
def yX7_mixed : MethodName := ⟨RX7, "mixed", "(JJ)J"⟩
abbrev cX7_within : ByteArray := prog_1_method_22_code
def yX7_within : MethodName := ⟨RX7, "within", "(III)Z"⟩
abbrev cX7_isSuch : ByteArray := prog_1_method_23_code
def yX7_isSuch : MethodName := ⟨RX7, "isSuch", "(II)Z"⟩
def RX8 : String := "RiversQueueModel"
def TX8 : u_T := fun k => match k with
  | 0 => ("RiversQueueModel", "page", "[I", true)
  | 1 => ("RiversQueueModel", "pageMany", "I", false)
  | 2 => ("RiversQueueModel", "read", "[I", true)
  | 3 => ("RiversQueueModel", "readMany", "I", false)
  | 4 => ("RiversQueueModel", "readBar", "I", false)
  | 5 => ("RiversQueueModel", "state", "I", false)
  | 6 => ("RiversQueueModel", "many", "I", false)
  | 7 => ("RiversQueueModel", "bar", "I", false)
  | 8 => ("RiversQueueModel", "hoursNow", "I", false)
  | 9 => ("RiversQueueModel", "coastsRead", "I", false)
  | 10 => ("RiversQueueModel", "kinds", "[I", true)
  | 11 => ("RiversQueueModel", "flows", "[I", true)
  | 12 => ("RiversQueueModel", "waters", "[I", true)
  | 13 => ("RiversQueueModel", "stands", "[I", true)
  | 14 => ("RiversQueueModel", "taken", "[I", true)
  | 15 => ("RiversQueueModel", "tookOf", "I", false)
  | 16 => ("RiversQueueModel", "tookMuch", "I", false)
  | 17 => ("RiversQueueModel", "savedWaters", "[I", true)
  | 18 => ("RiversQueueModel", "savedStands", "[I", true)
  | 19 => ("RiversQueueModel", "bestDone", "I", false)
  | 20 => ("RiversQueueModel", "bestStands", "[I", true)
  | 21 => ("RiversQueueModel", "seenMany", "I", false)
  | 22 => ("RiversQueueModel", "sights", "[I", true)
  | 23 => ("RiversQueueModel", "tookThen", "[I", true)
  | 24 => ("RiversQueueModel", "yes", "[I", true)
  | 25 => ("RiversQueueModel", "seedNow", "I", false)
  | 26 => ("RiversQueueModel", "keptCoast", "I", false)
  | 27 => ("RiversQueueModel", "keptHours", "I", false)
  | 28 => ("RiversQueueModel", "keptSeen", "I", false)
  | 29 => ("RiversQueueModel", "keptWaters", "[I", true)
  | 30 => ("RiversQueueModel", "keptStands", "[I", true)
  | 31 => ("RiversQueueModel", "keptTaken", "[I", true)
  | 32 => ("RiversQueueModel", "keptSights", "[I", true)
  | _ => ("RiversQueueModel", "hash", "J", false)
def tyX8 : Nat → FieldType := fun k => match k with
  | 0 => .array .int
  | 1 => .int
  | 2 => .array .int
  | 3 => .int
  | 4 => .int
  | 5 => .int
  | 6 => .int
  | 7 => .int
  | 8 => .int
  | 9 => .int
  | 10 => .array .int
  | 11 => .array .int
  | 12 => .array .int
  | 13 => .array .int
  | 14 => .array .int
  | 15 => .int
  | 16 => .int
  | 17 => .array .int
  | 18 => .array .int
  | 19 => .int
  | 20 => .array .int
  | 21 => .int
  | 22 => .array .int
  | 23 => .array .int
  | 24 => .array .int
  | 25 => .int
  | 26 => .int
  | 27 => .int
  | 28 => .int
  | 29 => .array .int
  | 30 => .array .int
  | 31 => .array .int
  | 32 => .array .int
  | _ => .long
abbrev wsX80 : List Cond := u_ws RX8 TX8 34
theorem nmX8 : ∀ a, a < 34 → ∀ b, b < 34 → a ≠ b → (TX8 a).2.1 ≠ (TX8 b).2.1 := by decide +kernel
theorem tyX8_ok : ∀ k, k < 34 → parseFieldDescriptor (TX8 k).2.2.1 = some (tyX8 k) := by decide +kernel
abbrev cX8_init : ByteArray := prog_10_method_1_code
def yX8_init : MethodName := ⟨RX8, "<init>", "()V"⟩
abbrev cX8_in : ByteArray := prog_10_method_2_code
def yX8_in : MethodName := ⟨RX8, "in", "(JJJ)Z"⟩
abbrev cX8_copy : ByteArray := prog_10_method_3_code
def yX8_copy : MethodName := ⟨RX8, "copy", "([I[I)V"⟩
abbrev cX8_letter : ByteArray := prog_10_method_4_code
def yX8_letter : MethodName := ⟨RX8, "letter", "(I)I"⟩
abbrev cX8_blank : ByteArray := prog_10_method_5_code
def yX8_blank : MethodName := ⟨RX8, "blank", "()I"⟩
abbrev cX8_kindBy : ByteArray := prog_10_method_6_code
def yX8_kindBy : MethodName := ⟨RX8, "kindBy", "(I)I"⟩
abbrev cX8_go : ByteArray := prog_10_method_7_code
def yX8_go : MethodName := ⟨RX8, "go", "(I)Z"⟩
abbrev cX8_faultOf : ByteArray := prog_10_method_8_code
def yX8_faultOf : MethodName := ⟨RX8, "faultOf", "()I"⟩
abbrev cX8_fault : ByteArray := prog_10_method_9_code
def yX8_fault : MethodName := ⟨RX8, "fault", "()I"⟩
abbrev cX8_coast : ByteArray := prog_10_method_10_code
def yX8_coast : MethodName := ⟨RX8, "coast", "()I"⟩
abbrev cX8_lacks : ByteArray := prog_10_method_11_code
def yX8_lacks : MethodName := ⟨RX8, "lacks", "()Z"⟩
abbrev cX8_isRiver : ByteArray := prog_10_method_12_code
def yX8_isRiver : MethodName := ⟨RX8, "isRiver", "(I)Z"⟩
abbrev cX8_pushes : ByteArray := prog_10_method_13_code
def yX8_pushes : MethodName := ⟨RX8, "pushes", "(II)Z"⟩
abbrev cX8_goBehind : ByteArray := prog_10_method_14_code
def yX8_goBehind : MethodName := ⟨RX8, "goBehind", "(I)V"⟩
abbrev cX8_goesBy : ByteArray := prog_10_method_15_code
def yX8_goesBy : MethodName := ⟨RX8, "goesBy", "()V"⟩
abbrev cX8_standing : ByteArray := prog_10_method_16_code
def yX8_standing : MethodName := ⟨RX8, "standing", "()I"⟩
abbrev cX8_layAside : ByteArray := prog_10_method_17_code
def yX8_layAside : MethodName := ⟨RX8, "layAside", "()V"⟩
abbrev cX8_layBack : ByteArray := prog_10_method_18_code
def yX8_layBack : MethodName := ⟨RX8, "layBack", "()V"⟩
abbrev cX8_waitsOf : ByteArray := prog_10_method_19_code
def yX8_waitsOf : MethodName := ⟨RX8, "waitsOf", "(I)I"⟩
abbrev cX8_placeOf : ByteArray := prog_10_method_20_code
def yX8_placeOf : MethodName := ⟨RX8, "placeOf", "(I)I"⟩
abbrev cX8_tell : ByteArray := prog_10_method_21_code
def yX8_tell : MethodName := ⟨RX8, "tell", "(II)I"⟩
abbrev cX8_river : ByteArray := prog_10_method_22_code
def yX8_river : MethodName := ⟨RX8, "river", "(II)I"⟩
abbrev cX8_as : ByteArray := prog_10_method_23_code
def yX8_as : MethodName := ⟨RX8, "as", "(II)I"⟩
abbrev cX8_row : ByteArray := prog_10_method_24_code
def yX8_row : MethodName := ⟨RX8, "row", "(I)I"⟩
abbrev cX8_hour : ByteArray := prog_10_method_25_code
def yX8_hour : MethodName := ⟨RX8, "hour", "()I"⟩
abbrev cX8_rains : ByteArray := prog_10_method_26_code
def yX8_rains : MethodName := ⟨RX8, "rains", "(II)I"⟩
abbrev cX8_rain : ByteArray := prog_10_method_27_code
def yX8_rain : MethodName := ⟨RX8, "rain", "(II)I"⟩
abbrev cX8_drought : ByteArray := prog_10_method_28_code
def yX8_drought : MethodName := ⟨RX8, "drought", "(I)I"⟩
abbrev cX8_wideOf : ByteArray := prog_10_method_29_code
def yX8_wideOf : MethodName := ⟨RX8, "wideOf", "(II)I"⟩
abbrev cX8_wide : ByteArray := prog_10_method_30_code
def yX8_wide : MethodName := ⟨RX8, "wide", "(II)I"⟩
abbrev cX8_layStands : ByteArray := prog_10_method_31_code
def yX8_layStands : MethodName := ⟨RX8, "layStands", "(I)Z"⟩
abbrev cX8_layBest : ByteArray := prog_10_method_32_code
def yX8_layBest : MethodName := ⟨RX8, "layBest", "()I"⟩
abbrev cX8_best : ByteArray := prog_10_method_33_code
def yX8_best : MethodName := ⟨RX8, "best", "(I)I"⟩
abbrev cX8_see : ByteArray := prog_10_method_34_code
def yX8_see : MethodName := ⟨RX8, "see", "(IIZ)I"⟩
abbrev cX8_forget : ByteArray := prog_10_method_35_code
def yX8_forget : MethodName := ⟨RX8, "forget", "()I"⟩
abbrev cX8_layThen : ByteArray := prog_10_method_36_code
def yX8_layThen : MethodName := ⟨RX8, "layThen", "(II)V"⟩
abbrev cX8_muchOf : ByteArray := prog_10_method_37_code
def yX8_muchOf : MethodName := ⟨RX8, "muchOf", "(I)I"⟩
abbrev cX8_lookOf : ByteArray := prog_10_method_38_code
def yX8_lookOf : MethodName := ⟨RX8, "lookOf", "(I)I"⟩
abbrev cX8_draw : ByteArray := prog_10_method_39_code
def yX8_draw : MethodName := ⟨RX8, "draw", "(I)I"⟩
abbrev cX8_seasons : ByteArray := prog_10_method_40_code
def yX8_seasons : MethodName := ⟨RX8, "seasons", "(III)I"⟩
abbrev cX8_image : ByteArray := prog_10_method_41_code
def yX8_image : MethodName := ⟨RX8, "image", "()I"⟩
abbrev cX8_restore : ByteArray := prog_10_method_42_code
def yX8_restore : MethodName := ⟨RX8, "restore", "()I"⟩
abbrev cX8_takenAll : ByteArray := prog_10_method_43_code
def yX8_takenAll : MethodName := ⟨RX8, "takenAll", "()I"⟩
abbrev cX8_countOf : ByteArray := prog_10_method_44_code
def yX8_countOf : MethodName := ⟨RX8, "countOf", "(I)I"⟩
abbrev cX8_count : ByteArray := prog_10_method_45_code
def yX8_count : MethodName := ⟨RX8, "count", "(I)I"⟩
abbrev cX8_say : ByteArray := prog_10_method_46_code
def yX8_say : MethodName := ⟨RX8, "say", "(J)V"⟩
abbrev cX8_digest : ByteArray := prog_10_method_47_code
def yX8_digest : MethodName := ⟨RX8, "digest", "()J"⟩
def RJx145de : String := "java/io/Serializable"
def TJx145de : u_T := fun k => match k with
  | _ => ("", "", "", false)
def tyJx145de : Nat → FieldType := fun k => match k with
  | _ => .int
abbrev wsJx145de0 : List Cond := u_ws RJx145de TJx145de 0
theorem nmJx145de : ∀ a, a < 0 → ∀ b, b < 0 → a ≠ b → (TJx145de a).2.1 ≠ (TJx145de b).2.1 := by decide +kernel
theorem tyJx145de_ok : ∀ k, k < 0 → parseFieldDescriptor (TJx145de k).2.2.1 = some (tyJx145de k) := by decide +kernel
def RJx9f9b0 : String := "java/lang/CharSequence"
def TJx9f9b0 : u_T := fun k => match k with
  | _ => ("", "", "", false)
def tyJx9f9b0 : Nat → FieldType := fun k => match k with
  | _ => .int
abbrev wsJx9f9b00 : List Cond := u_ws RJx9f9b0 TJx9f9b0 0
theorem nmJx9f9b0 : ∀ a, a < 0 → ∀ b, b < 0 → a ≠ b → (TJx9f9b0 a).2.1 ≠ (TJx9f9b0 b).2.1 := by decide +kernel
theorem tyJx9f9b0_ok : ∀ k, k < 0 → parseFieldDescriptor (TJx9f9b0 k).2.2.1 = some (tyJx9f9b0 k) := by decide +kernel
def RJ11 : String := "java/lang/Character"
def TJ11 : u_T := fun k => match k with
  | _ => ("", "", "", false)
def tyJ11 : Nat → FieldType := fun k => match k with
  | _ => .int
abbrev wsJ110 : List Cond := u_ws RJ11 TJ11 0
theorem nmJ11 : ∀ a, a < 0 → ∀ b, b < 0 → a ≠ b → (TJ11 a).2.1 ≠ (TJ11 b).2.1 := by decide +kernel
theorem tyJ11_ok : ∀ k, k < 0 → parseFieldDescriptor (TJ11 k).2.2.1 = some (tyJ11 k) := by decide +kernel
abbrev cJ11_isValidCodePoint_9a6ad : ByteArray := prog_11_method_11_code
def yJ11_isValidCodePoint_9a6ad : MethodName := ⟨RJ11, "isValidCodePoint", "(I)Z"⟩
abbrev cJ11_highSurrogate_5068e : ByteArray := prog_11_method_28_code
def yJ11_highSurrogate_5068e : MethodName := ⟨RJ11, "highSurrogate", "(I)C"⟩
abbrev cJ11_lowSurrogate_5068e : ByteArray := prog_11_method_29_code
def yJ11_lowSurrogate_5068e : MethodName := ⟨RJ11, "lowSurrogate", "(I)C"⟩
def RJxb160c : String := "java/lang/Comparable"
def TJxb160c : u_T := fun k => match k with
  | _ => ("", "", "", false)
def tyJxb160c : Nat → FieldType := fun k => match k with
  | _ => .int
abbrev wsJxb160c0 : List Cond := u_ws RJxb160c TJxb160c 0
theorem nmJxb160c : ∀ a, a < 0 → ∀ b, b < 0 → a ≠ b → (TJxb160c a).2.1 ≠ (TJxb160c b).2.1 := by decide +kernel
theorem tyJxb160c_ok : ∀ k, k < 0 → parseFieldDescriptor (TJxb160c k).2.2.1 = some (tyJxb160c k) := by decide +kernel
def RJ9 : String := "java/lang/Math"
def TJ9 : u_T := fun k => match k with
  | _ => ("", "", "", false)
def tyJ9 : Nat → FieldType := fun k => match k with
  | _ => .int
abbrev wsJ90 : List Cond := u_ws RJ9 TJ9 0
theorem nmJ9 : ∀ a, a < 0 → ∀ b, b < 0 → a ≠ b → (TJ9 a).2.1 ≠ (TJ9 b).2.1 := by decide +kernel
theorem tyJ9_ok : ∀ k, k < 0 → parseFieldDescriptor (TJ9 k).2.2.1 = some (tyJ9 k) := by decide +kernel
abbrev cJ9_max_7cf53 : ByteArray := prog_12_method_65_code
def yJ9_max_7cf53 : MethodName := ⟨RJ9, "max", "(II)I"⟩
abbrev cJ9_min_7cf53 : ByteArray := prog_12_method_69_code
def yJ9_min_7cf53 : MethodName := ⟨RJ9, "min", "(II)I"⟩
def RJ0 : String := "java/lang/String"
def TJ0 : u_T := fun k => match k with
  | _ => ("", "", "", false)
def tyJ0 : Nat → FieldType := fun k => match k with
  | _ => .int
abbrev wsJ00 : List Cond := u_ws RJ0 TJ0 0
theorem nmJ0 : ∀ a, a < 0 → ∀ b, b < 0 → a ≠ b → (TJ0 a).2.1 ≠ (TJ0 b).2.1 := by decide +kernel
theorem tyJ0_ok : ∀ k, k < 0 → parseFieldDescriptor (TJ0 k).2.2.1 = some (tyJ0 k) := by decide +kernel
abbrev cJ0_length_8abf5 : ByteArray := prog_13_method_54_code
def yJ0_length_8abf5 : MethodName := ⟨RJ0, "length", "()I"⟩
abbrev cJ0_indexOf_0f7a4 : ByteArray := prog_13_method_79_code
def yJ0_indexOf_0f7a4 : MethodName := ⟨RJ0, "indexOf", "(I)I"⟩
abbrev cJ0_indexOf_7cf53 : ByteArray := prog_13_method_80_code
def yJ0_indexOf_7cf53 : MethodName := ⟨RJ0, "indexOf", "(II)I"⟩
abbrev cJ0_coder_7d493 : ByteArray := prog_13_method_152_code
def yJ0_coder_7d493 : MethodName := ⟨RJ0, "coder", "()B"⟩
abbrev cJ0_isLatin1_aae02 : ByteArray := prog_13_method_154_code
def yJ0_isLatin1_aae02 : MethodName := ⟨RJ0, "isLatin1", "()Z"⟩
abbrev cJ0_checkBoundsBeginEnd_23922 : ByteArray := prog_13_method_158_code
def yJ0_checkBoundsBeginEnd_23922 : MethodName := ⟨RJ0, "checkBoundsBeginEnd", "(III)V"⟩
def RJ1 : String := "java/lang/StringLatin1"
def TJ1 : u_T := fun k => match k with
  | _ => ("", "", "", false)
def tyJ1 : Nat → FieldType := fun k => match k with
  | _ => .int
abbrev wsJ10 : List Cond := u_ws RJ1 TJ1 0
theorem nmJ1 : ∀ a, a < 0 → ∀ b, b < 0 → a ≠ b → (TJ1 a).2.1 ≠ (TJ1 b).2.1 := by decide +kernel
theorem tyJ1_ok : ∀ k, k < 0 → parseFieldDescriptor (TJ1 k).2.2.1 = some (tyJ1 k) := by decide +kernel
abbrev cJ1_canEncode_9a6ad : ByteArray := prog_14_method_4_code
def yJ1_canEncode_9a6ad : MethodName := ⟨RJ1, "canEncode", "(I)Z"⟩
abbrev cJ1_indexOf_4cfef : ByteArray := prog_14_method_22_code
def yJ1_indexOf_4cfef : MethodName := ⟨RJ1, "indexOf", "([BIII)I"⟩
abbrev cJ1_indexOfChar_4cfef : ByteArray := prog_14_method_23_code
def yJ1_indexOfChar_4cfef : MethodName := ⟨RJ1, "indexOfChar", "([BIII)I"⟩
def RJ2 : String := "java/lang/StringUTF16"
def TJ2 : u_T := fun k => match k with
  | _ => ("", "", "", false)
def tyJ2 : Nat → FieldType := fun k => match k with
  | _ => .int
abbrev wsJ20 : List Cond := u_ws RJ2 TJ2 0
theorem nmJ2 : ∀ a, a < 0 → ∀ b, b < 0 → a ≠ b → (TJ2 a).2.1 ≠ (TJ2 b).2.1 := by decide +kernel
theorem tyJ2_ok : ∀ k, k < 0 → parseFieldDescriptor (TJ2 k).2.2.1 = some (tyJ2 k) := by decide +kernel
abbrev cJ2_getChar_3b067 : ByteArray := prog_15_method_5_code
def yJ2_getChar_3b067 : MethodName := ⟨RJ2, "getChar", "([BI)C"⟩
abbrev cJ2_length_9d52b : ByteArray := prog_15_method_6_code
def yJ2_length_9d52b : MethodName := ⟨RJ2, "length", "([B)I"⟩
abbrev cJ2_indexOf_4cfef : ByteArray := prog_15_method_40_code
def yJ2_indexOf_4cfef : MethodName := ⟨RJ2, "indexOf", "([BIII)I"⟩
abbrev cJ2_indexOfChar_4cfef : ByteArray := prog_15_method_47_code
def yJ2_indexOfChar_4cfef : MethodName := ⟨RJ2, "indexOfChar", "([BIII)I"⟩
abbrev cJ2_indexOfCharUnsafe_4cfef : ByteArray := prog_15_method_48_code
def yJ2_indexOfCharUnsafe_4cfef : MethodName := ⟨RJ2, "indexOfCharUnsafe", "([BIII)I"⟩
abbrev cJ2_indexOfSupplementary_4cfef : ByteArray := prog_15_method_49_code
def yJ2_indexOfSupplementary_4cfef : MethodName := ⟨RJ2, "indexOfSupplementary", "([BIII)I"⟩
abbrev cJ2_checkBoundsBeginEnd_d044e : ByteArray := prog_15_method_93_code
def yJ2_checkBoundsBeginEnd_d044e : MethodName := ⟨RJ2, "checkBoundsBeginEnd", "(II[B)V"⟩
def RJ10 : String := "java/lang/System"
def TJ10 : u_T := fun k => match k with
  | _ => ("", "", "", false)
def tyJ10 : Nat → FieldType := fun k => match k with
  | _ => .int
abbrev wsJ100 : List Cond := u_ws RJ10 TJ10 0
theorem nmJ10 : ∀ a, a < 0 → ∀ b, b < 0 → a ≠ b → (TJ10 a).2.1 ≠ (TJ10 b).2.1 := by decide +kernel
theorem tyJ10_ok : ∀ k, k < 0 → parseFieldDescriptor (TJ10 k).2.2.1 = some (tyJ10 k) := by decide +kernel
def RJxfd54e : String := "java/lang/constant/Constable"
def TJxfd54e : u_T := fun k => match k with
  | _ => ("", "", "", false)
def tyJxfd54e : Nat → FieldType := fun k => match k with
  | _ => .int
abbrev wsJxfd54e0 : List Cond := u_ws RJxfd54e TJxfd54e 0
theorem nmJxfd54e : ∀ a, a < 0 → ∀ b, b < 0 → a ≠ b → (TJxfd54e a).2.1 ≠ (TJxfd54e b).2.1 := by decide +kernel
theorem tyJxfd54e_ok : ∀ k, k < 0 → parseFieldDescriptor (TJxfd54e k).2.2.1 = some (tyJxfd54e k) := by decide +kernel
def RJx3cf43 : String := "java/lang/constant/ConstantDesc"
def TJx3cf43 : u_T := fun k => match k with
  | _ => ("", "", "", false)
def tyJx3cf43 : Nat → FieldType := fun k => match k with
  | _ => .int
abbrev wsJx3cf430 : List Cond := u_ws RJx3cf43 TJx3cf43 0
theorem nmJx3cf43 : ∀ a, a < 0 → ∀ b, b < 0 → a ≠ b → (TJx3cf43 a).2.1 ≠ (TJx3cf43 b).2.1 := by decide +kernel
theorem tyJx3cf43_ok : ∀ k, k < 0 → parseFieldDescriptor (TJx3cf43 k).2.2.1 = some (tyJx3cf43 k) := by decide +kernel
def RJ7 : String := "java/util/Arrays"
def TJ7 : u_T := fun k => match k with
  | _ => ("", "", "", false)
def tyJ7 : Nat → FieldType := fun k => match k with
  | _ => .int
abbrev wsJ70 : List Cond := u_ws RJ7 TJ7 0
theorem nmJ7 : ∀ a, a < 0 → ∀ b, b < 0 → a ≠ b → (TJ7 a).2.1 ≠ (TJ7 b).2.1 := by decide +kernel
theorem tyJ7_ok : ∀ k, k < 0 → parseFieldDescriptor (TJ7 k).2.2.1 = some (tyJ7 k) := by decide +kernel
abbrev cJ7_fill_53178 : ByteArray := prog_17_method_103_code
def yJ7_fill_53178 : MethodName := ⟨RJ7, "fill", "([II)V"⟩
def RJ3 : String := "jdk/internal/util/Preconditions"
def TJ3 : u_T := fun k => match k with
  | _ => ("", "", "", false)
def tyJ3 : Nat → FieldType := fun k => match k with
  | _ => .int
abbrev wsJ30 : List Cond := u_ws RJ3 TJ3 0
theorem nmJ3 : ∀ a, a < 0 → ∀ b, b < 0 → a ≠ b → (TJ3 a).2.1 ≠ (TJ3 b).2.1 := by decide +kernel
theorem tyJ3_ok : ∀ k, k < 0 → parseFieldDescriptor (TJ3 k).2.2.1 = some (tyJ3 k) := by decide +kernel
abbrev cJ3_checkFromToIndex_8c36e : ByteArray := prog_18_method_12_code
def yJ3_checkFromToIndex_8c36e : MethodName := ⟨RJ3, "checkFromToIndex", "(IIILjava/util/function/BiFunction;)I"⟩
def RL : String := "RiversQueueLaw"
abbrev cL_law : ByteArray := code
def yL_law : MethodName := ⟨RL, "law", "([I)Z"⟩
def wsL_law_r1 : List Cond := [Cond.classLink RL 7 RX7, Cond.instantiable RX7 11, Cond.initialized RX7, Cond.classLink RL 10 RX8, Cond.instantiable RX8 34, Cond.initialized RX8, Cond.methodLink RL 9 yX7_init, Cond.instanceMethod yX7_init, Cond.code yX7_init cX7_init 1 none, Cond.methodLink RX7 1 objectInit, Cond.instanceMethod objectInit, Cond.code objectInit ⟨#[0xb1]⟩ 1 none, Cond.classLink RX7 7 RX4, Cond.instantiable RX4 2, Cond.initialized RX4, Cond.fieldLink RX7 10 "RiversQueue" "page" "LRiversQueue$Page;", Cond.classLink RX7 16 RX1, Cond.instantiable RX1 4, Cond.initialized RX1, Cond.fieldLink RX7 19 "RiversQueue" "coast" "LRiversQueue$Coast;", Cond.classLink RX7 23 RX5, Cond.instantiable RX5 6, Cond.initialized RX5, Cond.fieldLink RX7 28 "RiversQueue" "now" "LRiversQueue$Shore;"]
def wsL_law_r2 : List Cond := [Cond.classLink RX7 32 RX6, Cond.instantiable RX6 4, Cond.initialized RX6, Cond.fieldLink RX7 35 "RiversQueue" "seen" "LRiversQueue$Sightings;", Cond.fieldLink RX7 39 "RiversQueue" "keptShore" "LRiversQueue$Shore;", Cond.fieldLink RX7 42 "RiversQueue" "keptSeen" "LRiversQueue$Sightings;", Cond.classLink RX7 45 RX3, Cond.instantiable RX3 7, Cond.initialized RX3, Cond.fieldLink RX7 50 "RiversQueue" "forecast" "LRiversQueue$Forecast;", Cond.classLink RX7 54 RX0, Cond.instantiable RX0 6, Cond.initialized RX0, Cond.fieldLink RX7 59 "RiversQueue" "bestOrder" "LRiversQueue$BestOrder;", Cond.instanceMethod yX4_init, Cond.code yX4_init cX4_init 1 none, Cond.methodLink RX4 3 objectInit, Cond.arrayClass .int, Cond.fieldLink RX4 9 "RiversQueue$Page" "letters" "[I", Cond.instanceMethod yX1_init, Cond.code yX1_init cX1_init 1 none, Cond.methodLink RX1 3 objectInit, Cond.fieldLink RX1 9 "RiversQueue$Coast" "kinds" "[I", Cond.fieldLink RX1 15 "RiversQueue$Coast" "flows" "[I"]
def wsL_law_r3 : List Cond := [Cond.methodLink RX7 25 yX5_init, Cond.instanceMethod yX5_init, Cond.code yX5_init cX5_init 2 none, Cond.methodLink RX5 3 objectInit, Cond.fieldLink RX5 9 "RiversQueue$Shore" "water" "[I", Cond.fieldLink RX5 15 "RiversQueue$Shore" "took" "[I", Cond.fieldLink RX5 18 "RiversQueue$Shore" "row" "[I", Cond.fieldLink RX5 21 "RiversQueue$Shore" "takenOf" "I", Cond.fieldLink RX5 25 "RiversQueue$Shore" "coast" "LRiversQueue$Coast;", Cond.instanceMethod yX6_init, Cond.code yX6_init cX6_init 1 none, Cond.methodLink RX6 3 objectInit, Cond.fieldLink RX6 9 "RiversQueue$Sightings" "hours" "[I", Cond.fieldLink RX6 15 "RiversQueue$Sightings" "rivers" "[I", Cond.arrayClass .boolean, Cond.fieldLink RX6 18 "RiversQueue$Sightings" "taken" "[Z", Cond.methodLink RX7 47 yX3_init, Cond.instanceMethod yX3_init, Cond.code yX3_init cX3_init 4 none, Cond.methodLink RX3 3 objectInit, Cond.classLink RX3 9 RX2, Cond.instantiable RX2 1, Cond.initialized RX2, Cond.fieldLink RX3 12 "RiversQueue$Forecast" "draws" "LRiversQueue$Draws;"]
def wsL_law_r4 : List Cond := [Cond.fieldLink RX3 18 "RiversQueue$Forecast" "takenOf" "[I", Cond.fieldLink RX3 22 "RiversQueue$Forecast" "takes" "[I", Cond.fieldLink RX3 25 "RiversQueue$Forecast" "coast" "LRiversQueue$Coast;", Cond.fieldLink RX3 29 "RiversQueue$Forecast" "now" "LRiversQueue$Shore;", Cond.fieldLink RX3 33 "RiversQueue$Forecast" "seen" "LRiversQueue$Sightings;", Cond.classLink RX3 37 RX5, Cond.fieldLink RX3 42 "RiversQueue$Forecast" "trial" "LRiversQueue$Shore;", Cond.instanceMethod yX2_init, Cond.code yX2_init cX2_init 1 none, Cond.methodLink RX2 1 objectInit, Cond.methodLink RX3 39 yX5_init, Cond.methodLink RX7 56 yX0_init, Cond.instanceMethod yX0_init, Cond.code yX0_init cX0_init 3 none, Cond.methodLink RX0 3 objectInit, Cond.fieldLink RX0 9 "RiversQueue$BestOrder" "order" "[I", Cond.fieldLink RX0 15 "RiversQueue$BestOrder" "found" "[I", Cond.fieldLink RX0 18 "RiversQueue$BestOrder" "coast" "LRiversQueue$Coast;", Cond.fieldLink RX0 22 "RiversQueue$BestOrder" "now" "LRiversQueue$Shore;", Cond.classLink RX0 26 RX5, Cond.fieldLink RX0 31 "RiversQueue$BestOrder" "trial" "LRiversQueue$Shore;", Cond.methodLink RX0 28 yX5_init, Cond.methodLink RL 12 yX8_init, Cond.instanceMethod yX8_init]
def wsL_law_r5 : List Cond := [Cond.code yX8_init cX8_init 1 none, Cond.methodLink RX8 1 objectInit, Cond.fieldLink RX8 7 "RiversQueueModel" "page" "[I", Cond.fieldLink RX8 13 "RiversQueueModel" "read" "[I", Cond.fieldLink RX8 16 "RiversQueueModel" "kinds" "[I", Cond.fieldLink RX8 19 "RiversQueueModel" "flows" "[I", Cond.fieldLink RX8 22 "RiversQueueModel" "waters" "[I", Cond.fieldLink RX8 25 "RiversQueueModel" "stands" "[I", Cond.fieldLink RX8 28 "RiversQueueModel" "taken" "[I", Cond.fieldLink RX8 31 "RiversQueueModel" "savedWaters" "[I", Cond.fieldLink RX8 34 "RiversQueueModel" "savedStands" "[I", Cond.fieldLink RX8 37 "RiversQueueModel" "bestStands" "[I", Cond.fieldLink RX8 40 "RiversQueueModel" "sights" "[I", Cond.fieldLink RX8 43 "RiversQueueModel" "tookThen" "[I", Cond.fieldLink RX8 46 "RiversQueueModel" "yes" "[I", Cond.fieldLink RX8 49 "RiversQueueModel" "keptWaters" "[I", Cond.fieldLink RX8 52 "RiversQueueModel" "keptStands" "[I", Cond.fieldLink RX8 55 "RiversQueueModel" "keptTaken" "[I", Cond.fieldLink RX8 58 "RiversQueueModel" "keptSights" "[I", Cond.fieldLink RX8 61 "RiversQueueModel" "keptCoast" "I", Cond.methodLink RL 13 yX7_letter, Cond.instanceMethod yX7_letter, Cond.selects RX7 yX7_letter yX7_letter, Cond.code yX7_letter cX7_letter 2 (some .int)]
def wsL_law_r6 : List Cond := [Cond.methodLink RX7 63 yX7_within, Cond.static yX7_within, Cond.code yX7_within cX7_within 3 (some .boolean), Cond.methodLink RX7 67 yX4_isFull, Cond.instanceMethod yX4_isFull, Cond.selects RX4 yX4_isFull yX4_isFull, Cond.code yX4_isFull cX4_isFull 1 (some .boolean), Cond.fieldLink RX4 15 "RiversQueue$Page" "size" "I", Cond.methodLink RX7 71 yX4_write, Cond.instanceMethod yX4_write, Cond.selects RX4 yX4_write yX4_write, Cond.code yX4_write cX4_write 2 (some .int), Cond.methodLink RX4 19 yX4_isFull, Cond.methodLink RL 17 yX8_letter, Cond.instanceMethod yX8_letter, Cond.selects RX8 yX8_letter yX8_letter, Cond.code yX8_letter cX8_letter 2 (some .int), Cond.constantLong RX8 65 (126), Cond.fieldLink RX8 71 "RiversQueueModel" "pageMany" "I", Cond.methodLink RX8 67 yX8_in, Cond.static yX8_in, Cond.code yX8_in cX8_in 6 (some .boolean), Cond.methodLink RL 18 yX7_blank, Cond.instanceMethod yX7_blank]
def wsL_law_r7 : List Cond := [Cond.selects RX7 yX7_blank yX7_blank, Cond.code yX7_blank cX7_blank 1 (some .int), Cond.methodLink RX7 75 yX4_clear, Cond.instanceMethod yX4_clear, Cond.selects RX4 yX4_clear yX4_clear, Cond.code yX4_clear cX4_clear 2 (some .int), Cond.methodLink RL 22 yX8_blank, Cond.instanceMethod yX8_blank, Cond.selects RX8 yX8_blank yX8_blank, Cond.code yX8_blank cX8_blank 2 (some .int), Cond.methodLink RL 23 yX7_fault, Cond.instanceMethod yX7_fault, Cond.selects RX7 yX7_fault yX7_fault, Cond.code yX7_fault cX7_fault 1 (some .int), Cond.methodLink RX7 79 yX4_firstFault, Cond.instanceMethod yX4_firstFault, Cond.selects RX4 yX4_firstFault yX4_firstFault, Cond.code yX4_firstFault cX4_firstFault 2 (some .int), Cond.methodLink RX4 23 yX4_fits, Cond.instanceMethod yX4_fits, Cond.selects RX4 yX4_fits yX4_fits, Cond.code yX4_fits cX4_fits 4 (some .boolean), Cond.methodLink RX4 36 yX4_codeAt, Cond.instanceMethod yX4_codeAt]
def wsL_law_r8 : List Cond := [Cond.selects RX4 yX4_codeAt yX4_codeAt, Cond.code yX4_codeAt cX4_codeAt 2 (some .int), Cond.methodLink RX4 31 yX4_standsBehindEnd, Cond.instanceMethod yX4_standsBehindEnd, Cond.selects RX4 yX4_standsBehindEnd yX4_standsBehindEnd, Cond.code yX4_standsBehindEnd cX4_standsBehindEnd 2 (some .boolean), Cond.methodLink RX4 40 yJ0_indexOf_0f7a4, Cond.instanceMethod yJ0_indexOf_0f7a4, Cond.selects RJ0 yJ0_indexOf_0f7a4 yJ0_indexOf_0f7a4, Cond.initialized RJ0, Cond.code yJ0_indexOf_0f7a4 cJ0_indexOf_0f7a4 2 (some .int), Cond.methodLink RJ0 633 yJ0_indexOf_7cf53, Cond.instanceMethod yJ0_indexOf_7cf53, Cond.selects RJ0 yJ0_indexOf_7cf53 yJ0_indexOf_7cf53, Cond.code yJ0_indexOf_7cf53 cJ0_indexOf_7cf53 3 (some .int), Cond.fieldLink RJ0 9 "java/lang/String" "value" "[B", Cond.methodLink RJ0 492 yJ0_isLatin1_aae02, Cond.instanceMethod yJ0_isLatin1_aae02, Cond.selects RJ0 yJ0_isLatin1_aae02 yJ0_isLatin1_aae02, Cond.code yJ0_isLatin1_aae02 cJ0_isLatin1_aae02 1 (some .boolean), Cond.fieldLink RJ0 38 "java/lang/String" "COMPACT_STRINGS" "Z", Cond.fieldLink RJ0 15 "java/lang/String" "coder" "B", Cond.methodLink RJ0 505 yJ0_length_8abf5, Cond.instanceMethod yJ0_length_8abf5]
def wsL_law_r9 : List Cond := [Cond.selects RJ0 yJ0_length_8abf5 yJ0_length_8abf5, Cond.code yJ0_length_8abf5 cJ0_length_8abf5 1 (some .int), Cond.methodLink RJ0 335 yJ0_coder_7d493, Cond.instanceMethod yJ0_coder_7d493, Cond.selects RJ0 yJ0_coder_7d493 yJ0_coder_7d493, Cond.code yJ0_coder_7d493 cJ0_coder_7d493 1 (some .byte), Cond.methodLink RJ0 637 yJ1_indexOf_4cfef, Cond.static yJ1_indexOf_4cfef, Cond.initialized RJ1, Cond.code yJ1_indexOf_4cfef cJ1_indexOf_4cfef 4 (some .int), Cond.methodLink RJ1 92 Lib.Math.max.name, Cond.static Lib.Math.max.name, Cond.initialized "java/lang/Math", Cond.code Lib.Math.max.name Lib.Math.max.code 2 (some .int), Cond.methodLink RJ1 38 Lib.Math.min.name, Cond.static Lib.Math.min.name, Cond.code Lib.Math.min.name Lib.Math.min.code 2 (some .int), Cond.methodLink RJ1 88 yJ1_canEncode_9a6ad, Cond.static yJ1_canEncode_9a6ad, Cond.code yJ1_canEncode_9a6ad cJ1_canEncode_9a6ad 1 (some .boolean), Cond.methodLink RJ1 95 yJ1_indexOfChar_4cfef, Cond.static yJ1_indexOfChar_4cfef, Cond.code yJ1_indexOfChar_4cfef cJ1_indexOfChar_4cfef 6 (some .int), Cond.methodLink RJ0 640 yJ2_indexOf_4cfef]
def wsL_law_r10 : List Cond := [Cond.static yJ2_indexOf_4cfef, Cond.initialized RJ2, Cond.code yJ2_indexOf_4cfef cJ2_indexOf_4cfef 4 (some .int), Cond.methodLink RJ2 224 Lib.Math.max.name, Cond.methodLink RJ2 183 Lib.Math.min.name, Cond.constant RJ2 227 (65536), Cond.methodLink RJ2 228 yJ2_indexOfChar_4cfef, Cond.static yJ2_indexOfChar_4cfef, Cond.code yJ2_indexOfChar_4cfef cJ2_indexOfChar_4cfef 4 (some .int), Cond.methodLink RJ2 96 yJ2_checkBoundsBeginEnd_d044e, Cond.static yJ2_checkBoundsBeginEnd_d044e, Cond.code yJ2_checkBoundsBeginEnd_d044e cJ2_checkBoundsBeginEnd_d044e 3 none, Cond.methodLink RJ2 48 yJ2_length_9d52b, Cond.static yJ2_length_9d52b, Cond.code yJ2_length_9d52b cJ2_length_9d52b 1 (some .int), Cond.methodLink RJ2 241 yJ0_checkBoundsBeginEnd_23922, Cond.static yJ0_checkBoundsBeginEnd_23922, Cond.code yJ0_checkBoundsBeginEnd_23922 cJ0_checkBoundsBeginEnd_23922 3 none, Cond.fieldLink RJ0 1053 "jdk/internal/util/Preconditions" "SIOOBE_FORMATTER" "Ljava/util/function/BiFunction;", Cond.methodLink RJ0 1062 yJ3_checkFromToIndex_8c36e, Cond.static yJ3_checkFromToIndex_8c36e, Cond.initialized RJ3, Cond.code yJ3_checkFromToIndex_8c36e cJ3_checkFromToIndex_8c36e 4 (some .int), Cond.methodLink RJ2 244 yJ2_indexOfCharUnsafe_4cfef]
def wsL_law_r11 : List Cond := [Cond.static yJ2_indexOfCharUnsafe_4cfef, Cond.code yJ2_indexOfCharUnsafe_4cfef cJ2_indexOfCharUnsafe_4cfef 5 (some .int), Cond.methodLink RJ2 71 yJ2_getChar_3b067, Cond.static yJ2_getChar_3b067, Cond.code yJ2_getChar_3b067 cJ2_getChar_3b067 2 (some .char), Cond.fieldLink RJ2 44 "java/lang/StringUTF16" "$assertionsDisabled" "Z", Cond.fieldLink RJ2 59 "java/lang/StringUTF16" "HI_BYTE_SHIFT" "I", Cond.fieldLink RJ2 63 "java/lang/StringUTF16" "LO_BYTE_SHIFT" "I", Cond.methodLink RJ2 232 yJ2_indexOfSupplementary_4cfef, Cond.static yJ2_indexOfSupplementary_4cfef, Cond.code yJ2_indexOfSupplementary_4cfef cJ2_indexOfSupplementary_4cfef 7 (some .int), Cond.methodLink RJ2 164 yJ11_isValidCodePoint_9a6ad, Cond.static yJ11_isValidCodePoint_9a6ad, Cond.initialized RJ11, Cond.code yJ11_isValidCodePoint_9a6ad cJ11_isValidCodePoint_9a6ad 2 (some .boolean), Cond.methodLink RJ2 157 yJ11_highSurrogate_5068e, Cond.static yJ11_highSurrogate_5068e, Cond.code yJ11_highSurrogate_5068e cJ11_highSurrogate_5068e 1 (some .char), Cond.constant RJ11 110 (55232), Cond.methodLink RJ2 161 yJ11_lowSurrogate_5068e, Cond.static yJ11_lowSurrogate_5068e, Cond.code yJ11_lowSurrogate_5068e cJ11_lowSurrogate_5068e 1 (some .char), Cond.constant RJ11 76 (56320), Cond.methodLink RX4 49 yX4_fitsBehindRiver]
def wsL_law_r12 : List Cond := [Cond.static yX4_fitsBehindRiver, Cond.code yX4_fitsBehindRiver cX4_fitsBehindRiver 2 (some .boolean), Cond.methodLink RL 26 yX8_fault, Cond.instanceMethod yX8_fault, Cond.selects RX8 yX8_fault yX8_fault, Cond.code yX8_fault cX8_fault 1 (some .int), Cond.methodLink RX8 95 yX8_faultOf, Cond.instanceMethod yX8_faultOf, Cond.selects RX8 yX8_faultOf yX8_faultOf, Cond.code yX8_faultOf cX8_faultOf 2 (some .int), Cond.fieldLink RX8 77 "RiversQueueModel" "readMany" "I", Cond.fieldLink RX8 74 "RiversQueueModel" "state" "I", Cond.methodLink RX8 91 yX8_go, Cond.instanceMethod yX8_go, Cond.selects RX8 yX8_go yX8_go, Cond.code yX8_go cX8_go 4 (some .boolean), Cond.constantLong RX8 84 (9), Cond.constantLong RX8 86 (5), Cond.fieldLink RX8 88 "RiversQueueModel" "readBar" "I", Cond.methodLink RX8 80 yX8_kindBy, Cond.static yX8_kindBy, Cond.code yX8_kindBy cX8_kindBy 1 (some .int), Cond.methodLink RL 27 yX7_coast, Cond.instanceMethod yX7_coast]
def wsL_law_r13 : List Cond := [Cond.selects RX7 yX7_coast yX7_coast, Cond.code yX7_coast cX7_coast 1 (some .int), Cond.fieldLink RX7 93 "RiversQueue" "imageKept" "Z", Cond.fieldLink RX7 97 "RiversQueue" "coastsRead" "I", Cond.methodLink RX7 82 yX4_holdsCoast, Cond.instanceMethod yX4_holdsCoast, Cond.selects RX4 yX4_holdsCoast yX4_holdsCoast, Cond.code yX4_holdsCoast cX4_holdsCoast 1 (some .boolean), Cond.methodLink RX4 27 yX4_firstFault, Cond.methodLink RX7 85 yX1_readFrom, Cond.instanceMethod yX1_readFrom, Cond.selects RX1 yX1_readFrom yX1_readFrom, Cond.code yX1_readFrom cX1_readFrom 3 none, Cond.methodLink RX1 24 Lib.Math.min.name, Cond.fieldLink RX1 30 "RiversQueue$Coast" "rivers" "I", Cond.fieldLink RX1 36 "RiversQueue$Coast" "bar" "I", Cond.methodLink RX1 18 yX4_rivers, Cond.instanceMethod yX4_rivers, Cond.selects RX4 yX4_rivers yX4_rivers, Cond.code yX4_rivers cX4_rivers 1 (some .int), Cond.methodLink RX1 33 yX4_lastDigit, Cond.instanceMethod yX4_lastDigit, Cond.selects RX4 yX4_lastDigit yX4_lastDigit, Cond.code yX4_lastDigit cX4_lastDigit 1 (some .int)]
def wsL_law_r14 : List Cond := [Cond.methodLink RX1 39 yX4_kindAt, Cond.instanceMethod yX4_kindAt, Cond.selects RX4 yX4_kindAt yX4_kindAt, Cond.code yX4_kindAt cX4_kindAt 2 (some .int), Cond.methodLink RX1 43 yX4_flowAt, Cond.instanceMethod yX4_flowAt, Cond.selects RX4 yX4_flowAt yX4_flowAt, Cond.code yX4_flowAt cX4_flowAt 2 (some .int), Cond.methodLink RX7 89 yX5_beginAs, Cond.instanceMethod yX5_beginAs, Cond.selects RX5 yX5_beginAs yX5_beginAs, Cond.code yX5_beginAs cX5_beginAs 3 none, Cond.fieldLink RX5 40 "RiversQueue$Shore" "hours" "I", Cond.methodLink RX5 34 yX4_waterAt, Cond.instanceMethod yX4_waterAt, Cond.selects RX4 yX4_waterAt yX4_waterAt, Cond.code yX4_waterAt cX4_waterAt 2 (some .int), Cond.methodLink RX7 92 yX6_clear, Cond.instanceMethod yX6_clear, Cond.selects RX6 yX6_clear yX6_clear, Cond.code yX6_clear cX6_clear 2 (some .int), Cond.fieldLink RX6 22 "RiversQueue$Sightings" "size" "I", Cond.methodLink RL 30 yX8_coast, Cond.instanceMethod yX8_coast]
def wsL_law_r15 : List Cond := [Cond.selects RX8 yX8_coast yX8_coast, Cond.code yX8_coast cX8_coast 2 (some .int), Cond.fieldLink RX8 99 "RiversQueueModel" "many" "I", Cond.fieldLink RX8 102 "RiversQueueModel" "bar" "I", Cond.fieldLink RX8 105 "RiversQueueModel" "hoursNow" "I", Cond.fieldLink RX8 108 "RiversQueueModel" "seenMany" "I", Cond.fieldLink RX8 111 "RiversQueueModel" "coastsRead" "I", Cond.methodLink RL 31 yX7_river, Cond.instanceMethod yX7_river, Cond.selects RX7 yX7_river yX7_river, Cond.code yX7_river cX7_river 3 (some .int), Cond.methodLink RX7 104 yX1_hasRiver, Cond.instanceMethod yX1_hasRiver, Cond.selects RX1 yX1_hasRiver yX1_hasRiver, Cond.code yX1_hasRiver cX1_hasRiver 2 (some .boolean), Cond.methodLink RX7 118 yX5_placeOf, Cond.instanceMethod yX5_placeOf, Cond.selects RX5 yX5_placeOf yX5_placeOf, Cond.code yX5_placeOf cX5_placeOf 3 (some .int), Cond.methodLink RX7 124 yX3_waitsOf, Cond.instanceMethod yX3_waitsOf, Cond.selects RX3 yX3_waitsOf yX3_waitsOf, Cond.code yX3_waitsOf cX3_waitsOf 3 (some .int), Cond.methodLink RX3 45 yX5_copyFrom]
def wsL_law_r16 : List Cond := [Cond.instanceMethod yX5_copyFrom, Cond.selects RX5 yX5_copyFrom yX5_copyFrom, Cond.code yX5_copyFrom cX5_copyFrom 2 none, Cond.methodLink RX5 43 arraycopyName, Cond.native arraycopyName, Cond.static arraycopyName, Cond.initialized "java/lang/System", Cond.methodLink RX3 49 yX5_passHour, Cond.instanceMethod yX5_passHour, Cond.selects RX5 yX5_passHour yX5_passHour, Cond.code yX5_passHour cX5_passHour 2 (some .int), Cond.methodLink RX5 56 yX5_addWater, Cond.instanceMethod yX5_addWater, Cond.selects RX5 yX5_addWater yX5_addWater, Cond.code yX5_addWater cX5_addWater 3 (some .int), Cond.methodLink RX5 67 Lib.Math.min.name, Cond.methodLink RX5 60 yX5_pushAll, Cond.instanceMethod yX5_pushAll, Cond.selects RX5 yX5_pushAll yX5_pushAll, Cond.code yX5_pushAll cX5_pushAll 4 none, Cond.methodLink RX5 79 yX5_pushes, Cond.instanceMethod yX5_pushes, Cond.selects RX5 yX5_pushes yX5_pushes, Cond.code yX5_pushes cX5_pushes 4 (some .boolean)]
def wsL_law_r17 : List Cond := [Cond.methodLink RX5 63 yX5_feedSea, Cond.instanceMethod yX5_feedSea, Cond.selects RX5 yX5_feedSea yX5_feedSea, Cond.code yX5_feedSea cX5_feedSea 3 (some .int), Cond.methodLink RX5 75 yX5_sendBehindAll, Cond.instanceMethod yX5_sendBehindAll, Cond.selects RX5 yX5_sendBehindAll yX5_sendBehindAll, Cond.code yX5_sendBehindAll cX5_sendBehindAll 5 none, Cond.methodLink RX5 89 yX1_hasRiver, Cond.methodLink RX7 127 yX3_possibleWaters, Cond.instanceMethod yX3_possibleWaters, Cond.selects RX3 yX3_possibleWaters yX3_possibleWaters, Cond.code yX3_possibleWaters cX3_possibleWaters 4 (some .int), Cond.methodLink RX3 59 yX3_isPossible, Cond.instanceMethod yX3_isPossible, Cond.selects RX3 yX3_isPossible yX3_isPossible, Cond.code yX3_isPossible cX3_isPossible 4 (some .boolean), Cond.methodLink RX3 100 yX6_agreeWith, Cond.instanceMethod yX6_agreeWith, Cond.selects RX6 yX6_agreeWith yX6_agreeWith, Cond.code yX6_agreeWith cX6_agreeWith 5 (some .boolean), Cond.methodLink RX7 130 yX3_hourToLook, Cond.instanceMethod yX3_hourToLook, Cond.selects RX3 yX3_hourToLook yX3_hourToLook]
def wsL_law_r18 : List Cond := [Cond.code yX3_hourToLook cX3_hourToLook 4 (some .int), Cond.methodLink RX3 63 yJ7_fill_53178, Cond.static yJ7_fill_53178, Cond.initialized RJ7, Cond.code yJ7_fill_53178 cJ7_fill_53178 4 none, Cond.methodLink RX3 69 yX3_addTakes, Cond.instanceMethod yX3_addTakes, Cond.selects RX3 yX3_addTakes yX3_addTakes, Cond.code yX3_addTakes cX3_addTakes 3 none, Cond.methodLink RX3 73 yX3_hourThatParts, Cond.instanceMethod yX3_hourThatParts, Cond.selects RX3 yX3_hourThatParts yX3_hourThatParts, Cond.code yX3_hourThatParts cX3_hourThatParts 6 (some .int), Cond.methodLink RX3 92 Lib.Math.max.name, Cond.methodLink RL 35 yX8_river, Cond.instanceMethod yX8_river, Cond.selects RX8 yX8_river yX8_river, Cond.code yX8_river cX8_river 3 (some .int), Cond.methodLink RX8 153 yX8_isRiver, Cond.instanceMethod yX8_isRiver, Cond.selects RX8 yX8_isRiver yX8_isRiver, Cond.code yX8_isRiver cX8_isRiver 2 (some .boolean), Cond.methodLink RX8 156 yX8_tell, Cond.instanceMethod yX8_tell]
def wsL_law_r19 : List Cond := [Cond.selects RX8 yX8_tell yX8_tell, Cond.code yX8_tell cX8_tell 3 (some .int), Cond.methodLink RX8 141 yX8_placeOf, Cond.instanceMethod yX8_placeOf, Cond.selects RX8 yX8_placeOf yX8_placeOf, Cond.code yX8_placeOf cX8_placeOf 4 (some .int), Cond.methodLink RX8 144 yX8_waitsOf, Cond.instanceMethod yX8_waitsOf, Cond.selects RX8 yX8_waitsOf yX8_waitsOf, Cond.code yX8_waitsOf cX8_waitsOf 4 (some .int), Cond.fieldLink RX8 121 "RiversQueueModel" "tookOf" "I", Cond.methodLink RX8 132 yX8_layAside, Cond.instanceMethod yX8_layAside, Cond.selects RX8 yX8_layAside yX8_layAside, Cond.code yX8_layAside cX8_layAside 1 none, Cond.methodLink RX8 128 yX8_copy, Cond.static yX8_copy, Cond.code yX8_copy cX8_copy 3 none, Cond.methodLink RX8 135 yX8_goesBy, Cond.instanceMethod yX8_goesBy, Cond.selects RX8 yX8_goesBy yX8_goesBy, Cond.code yX8_goesBy cX8_goesBy 4 none, Cond.fieldLink RX8 118 "RiversQueueModel" "tookMuch" "I", Cond.methodLink RX8 114 yX8_pushes]
def wsL_law_r20 : List Cond := [Cond.instanceMethod yX8_pushes, Cond.selects RX8 yX8_pushes yX8_pushes, Cond.code yX8_pushes cX8_pushes 6 (some .boolean), Cond.methodLink RX8 124 yX8_goBehind, Cond.instanceMethod yX8_goBehind, Cond.selects RX8 yX8_goBehind yX8_goBehind, Cond.code yX8_goBehind cX8_goBehind 4 none, Cond.methodLink RX8 138 yX8_layBack, Cond.instanceMethod yX8_layBack, Cond.selects RX8 yX8_layBack yX8_layBack, Cond.code yX8_layBack cX8_layBack 1 none, Cond.methodLink RX8 147 yX8_muchOf, Cond.instanceMethod yX8_muchOf, Cond.selects RX8 yX8_muchOf yX8_muchOf, Cond.code yX8_muchOf cX8_muchOf 7 (some .int), Cond.methodLink RX8 194 yX8_layThen, Cond.instanceMethod yX8_layThen, Cond.selects RX8 yX8_layThen yX8_layThen, Cond.code yX8_layThen cX8_layThen 4 none, Cond.methodLink RX8 150 yX8_lookOf, Cond.instanceMethod yX8_lookOf, Cond.selects RX8 yX8_lookOf yX8_lookOf, Cond.code yX8_lookOf cX8_lookOf 8 (some .int), Cond.methodLink RL 36 yX7_as]
def wsL_law_r21 : List Cond := [Cond.instanceMethod yX7_as, Cond.selects RX7 yX7_as yX7_as, Cond.code yX7_as cX7_as 3 (some .int), Cond.methodLink RX7 133 yX7_isSuch, Cond.static yX7_isSuch, Cond.code yX7_isSuch cX7_isSuch 2 (some .boolean), Cond.methodLink RL 39 yX8_as, Cond.instanceMethod yX8_as, Cond.selects RX8 yX8_as yX8_as, Cond.code yX8_as cX8_as 4 (some .int), Cond.constantLong RX8 160 (4), Cond.methodLink RL 40 yX7_row, Cond.instanceMethod yX7_row, Cond.selects RX7 yX7_row yX7_row, Cond.code yX7_row cX7_row 2 (some .int), Cond.methodLink RL 43 yX8_row, Cond.instanceMethod yX8_row, Cond.selects RX8 yX8_row yX8_row, Cond.code yX8_row cX8_row 2 (some .int), Cond.methodLink RL 44 yX7_hour, Cond.instanceMethod yX7_hour, Cond.selects RX7 yX7_hour yX7_hour, Cond.code yX7_hour cX7_hour 1 (some .int), Cond.methodLink RX7 140 yX1_isRead]
def wsL_law_r22 : List Cond := [Cond.instanceMethod yX1_isRead, Cond.selects RX1 yX1_isRead yX1_isRead, Cond.code yX1_isRead cX1_isRead 1 (some .boolean), Cond.methodLink RX7 143 yX5_passHour, Cond.methodLink RL 47 yX8_hour, Cond.instanceMethod yX8_hour, Cond.selects RX8 yX8_hour yX8_hour, Cond.code yX8_hour cX8_hour 1 (some .int), Cond.methodLink RX8 162 yX8_lacks, Cond.instanceMethod yX8_lacks, Cond.selects RX8 yX8_lacks yX8_lacks, Cond.code yX8_lacks cX8_lacks 1 (some .boolean), Cond.methodLink RL 48 yX7_rain, Cond.instanceMethod yX7_rain, Cond.selects RX7 yX7_rain yX7_rain, Cond.code yX7_rain cX7_rain 3 (some .int), Cond.methodLink RX7 146 yX5_addWater, Cond.methodLink RL 51 yX8_rain, Cond.instanceMethod yX8_rain, Cond.selects RX8 yX8_rain yX8_rain, Cond.code yX8_rain cX8_rain 3 (some .int), Cond.constantLong RX8 166 (50), Cond.methodLink RX8 168 yX8_rains, Cond.instanceMethod yX8_rains]
def wsL_law_r23 : List Cond := [Cond.selects RX8 yX8_rains yX8_rains, Cond.code yX8_rains cX8_rains 3 (some .int), Cond.methodLink RL 52 yX7_drought, Cond.instanceMethod yX7_drought, Cond.selects RX7 yX7_drought yX7_drought, Cond.code yX7_drought cX7_drought 2 (some .int), Cond.methodLink RX7 150 yX5_dryUp, Cond.instanceMethod yX5_dryUp, Cond.selects RX5 yX5_dryUp yX5_dryUp, Cond.code yX5_dryUp cX5_dryUp 3 (some .int), Cond.methodLink RX5 72 yX5_placeOf, Cond.methodLink RL 55 yX8_drought, Cond.instanceMethod yX8_drought, Cond.selects RX8 yX8_drought yX8_drought, Cond.code yX8_drought cX8_drought 3 (some .int), Cond.methodLink RL 56 yX7_wide, Cond.instanceMethod yX7_wide, Cond.selects RX7 yX7_wide yX7_wide, Cond.code yX7_wide cX7_wide 4 (some .int), Cond.methodLink RX7 153 yX3_widestHour, Cond.instanceMethod yX3_widestHour, Cond.selects RX3 yX3_widestHour yX3_widestHour, Cond.code yX3_widestHour cX3_widestHour 6 (some .int), Cond.methodLink RX3 56 yX5_waterInAll]
def wsL_law_r24 : List Cond := [Cond.instanceMethod yX5_waterInAll, Cond.selects RX5 yX5_waterInAll yX5_waterInAll, Cond.code yX5_waterInAll cX5_waterInAll 1 (some .int), Cond.methodLink RX5 49 yX5_sumOfRivers, Cond.instanceMethod yX5_sumOfRivers, Cond.selects RX5 yX5_sumOfRivers yX5_sumOfRivers, Cond.code yX5_sumOfRivers cX5_sumOfRivers 4 (some .int), Cond.methodLink RX7 156 yX3_waterBehind, Cond.instanceMethod yX3_waterBehind, Cond.selects RX3 yX3_waterBehind yX3_waterBehind, Cond.code yX3_waterBehind cX3_waterBehind 3 (some .int), Cond.methodLink RL 59 yX8_wide, Cond.instanceMethod yX8_wide, Cond.selects RX8 yX8_wide yX8_wide, Cond.code yX8_wide cX8_wide 3 (some .int), Cond.constantLong RX8 174 (60), Cond.methodLink RX8 176 yX8_wideOf, Cond.instanceMethod yX8_wideOf, Cond.selects RX8 yX8_wideOf yX8_wideOf, Cond.code yX8_wideOf cX8_wideOf 7 (some .int), Cond.methodLink RX8 171 yX8_standing, Cond.instanceMethod yX8_standing, Cond.selects RX8 yX8_standing yX8_standing, Cond.code yX8_standing cX8_standing 3 (some .int)]
def wsL_law_r25 : List Cond := [Cond.methodLink RL 60 yX7_best, Cond.instanceMethod yX7_best, Cond.selects RX7 yX7_best yX7_best, Cond.code yX7_best cX7_best 3 (some .int), Cond.fieldLink RX7 159 "RiversQueue" "bestsDone" "I", Cond.methodLink RX7 162 yX0_find, Cond.instanceMethod yX0_find, Cond.selects RX0 yX0_find yX0_find, Cond.code yX0_find cX0_find 3 none, Cond.fieldLink RX0 52 "RiversQueue$BestOrder" "least" "I", Cond.methodLink RX0 40 yX0_waterBehindOrder, Cond.instanceMethod yX0_waterBehindOrder, Cond.selects RX0 yX0_waterBehindOrder yX0_waterBehindOrder, Cond.code yX0_waterBehindOrder cX0_waterBehindOrder 2 (some .int), Cond.methodLink RX0 55 arraycopyName, Cond.methodLink RX0 61 yX5_copyFrom, Cond.methodLink RX0 68 yX5_passHour, Cond.methodLink RX0 71 yX5_waterInAll, Cond.methodLink RX0 44 yX0_keepAsFound, Cond.instanceMethod yX0_keepAsFound, Cond.selects RX0 yX0_keepAsFound yX0_keepAsFound, Cond.code yX0_keepAsFound cX0_keepAsFound 2 none, Cond.methodLink RX0 48 yX0_goToNextOrder, Cond.instanceMethod yX0_goToNextOrder]
def wsL_law_r26 : List Cond := [Cond.selects RX0 yX0_goToNextOrder yX0_goToNextOrder, Cond.code yX0_goToNextOrder cX0_goToNextOrder 6 (some .boolean), Cond.methodLink RX0 74 yX0_swap, Cond.instanceMethod yX0_swap, Cond.selects RX0 yX0_swap yX0_swap, Cond.code yX0_swap cX0_swap 4 none, Cond.methodLink RL 63 yX8_best, Cond.instanceMethod yX8_best, Cond.selects RX8 yX8_best yX8_best, Cond.code yX8_best cX8_best 3 (some .int), Cond.constantLong RX8 182 (10), Cond.constantLong RX8 184 (14), Cond.fieldLink RX8 186 "RiversQueueModel" "bestDone" "I", Cond.methodLink RX8 189 yX8_layBest, Cond.instanceMethod yX8_layBest, Cond.selects RX8 yX8_layBest yX8_layBest, Cond.code yX8_layBest cX8_layBest 6 (some .int), Cond.methodLink RX8 179 yX8_layStands, Cond.instanceMethod yX8_layStands, Cond.selects RX8 yX8_layStands yX8_layStands, Cond.code yX8_layStands cX8_layStands 5 (some .boolean), Cond.methodLink RL 64 yX7_see, Cond.instanceMethod yX7_see, Cond.selects RX7 yX7_see yX7_see]
def wsL_law_r27 : List Cond := [Cond.code yX7_see cX7_see 4 (some .int), Cond.methodLink RX7 171 yX6_isFull, Cond.instanceMethod yX6_isFull, Cond.selects RX6 yX6_isFull yX6_isFull, Cond.code yX6_isFull cX6_isFull 1 (some .boolean), Cond.methodLink RX7 172 yX6_add, Cond.instanceMethod yX6_add, Cond.selects RX6 yX6_add yX6_add, Cond.code yX6_add cX6_add 4 (some .int), Cond.methodLink RX6 26 yX6_isFull, Cond.methodLink RL 68 yX8_see, Cond.instanceMethod yX8_see, Cond.selects RX8 yX8_see yX8_see, Cond.code yX8_see cX8_see 4 (some .int), Cond.constantLong RX8 192 (12), Cond.methodLink RL 69 yX7_forget, Cond.instanceMethod yX7_forget, Cond.selects RX7 yX7_forget yX7_forget, Cond.code yX7_forget cX7_forget 1 (some .int), Cond.methodLink RL 72 yX8_forget, Cond.instanceMethod yX8_forget, Cond.selects RX8 yX8_forget yX8_forget, Cond.code yX8_forget cX8_forget 2 (some .int), Cond.methodLink RL 73 yX7_seasons]
def wsL_law_r28 : List Cond := [Cond.instanceMethod yX7_seasons, Cond.selects RX7 yX7_seasons yX7_seasons, Cond.code yX7_seasons cX7_seasons 5 (some .int), Cond.methodLink RX7 176 yX3_passSeasons, Cond.instanceMethod yX3_passSeasons, Cond.selects RX3 yX3_passSeasons yX3_passSeasons, Cond.code yX3_passSeasons cX3_passSeasons 7 (some .int), Cond.methodLink RX3 80 yX2_next, Cond.instanceMethod yX2_next, Cond.selects RX2 yX2_next yX2_next, Cond.code yX2_next cX2_next 2 (some .int), Cond.constantLong RX2 7 (1103515245), Cond.fieldLink RX2 9 "RiversQueue$Draws" "seed" "I", Cond.constantLong RX2 15 (12345), Cond.constantLong RX2 17 (2147483647), Cond.methodLink RX3 88 yX5_addWater, Cond.methodLink RX7 182 yX5_waterInAll, Cond.methodLink RL 77 yX8_seasons, Cond.instanceMethod yX8_seasons, Cond.selects RX8 yX8_seasons yX8_seasons, Cond.code yX8_seasons cX8_seasons 8 (some .int), Cond.constantLong RX8 208 (2), Cond.fieldLink RX8 200 "RiversQueueModel" "seedNow" "I", Cond.methodLink RX8 210 yX8_draw]
def wsL_law_r29 : List Cond := [Cond.instanceMethod yX8_draw, Cond.selects RX8 yX8_draw yX8_draw, Cond.code yX8_draw cX8_draw 2 (some .int), Cond.constantLong RX8 198 (1103515245), Cond.constantLong RX8 203 (12345), Cond.constantLong RX8 205 (2147483647), Cond.constant RX8 207 (65536), Cond.methodLink RL 78 yX7_image, Cond.instanceMethod yX7_image, Cond.selects RX7 yX7_image yX7_image, Cond.code yX7_image cX7_image 1 (some .int), Cond.methodLink RX7 194 yX5_copyFrom, Cond.methodLink RX7 198 yX6_copyFrom, Cond.instanceMethod yX6_copyFrom, Cond.selects RX6 yX6_copyFrom yX6_copyFrom, Cond.code yX6_copyFrom cX6_copyFrom 3 none, Cond.methodLink RL 81 yX8_image, Cond.instanceMethod yX8_image, Cond.selects RX8 yX8_image yX8_image, Cond.code yX8_image cX8_image 1 (some .int), Cond.fieldLink RX8 213 "RiversQueueModel" "keptHours" "I", Cond.fieldLink RX8 216 "RiversQueueModel" "keptSeen" "I", Cond.methodLink RL 82 yX7_restore, Cond.instanceMethod yX7_restore]
def wsL_law_r30 : List Cond := [Cond.selects RX7 yX7_restore yX7_restore, Cond.code yX7_restore cX7_restore 1 (some .int), Cond.methodLink RL 85 yX8_restore, Cond.instanceMethod yX8_restore, Cond.selects RX8 yX8_restore yX8_restore, Cond.code yX8_restore cX8_restore 1 (some .int), Cond.methodLink RL 86 yX7_count, Cond.instanceMethod yX7_count, Cond.selects RX7 yX7_count yX7_count, Cond.code yX7_count cX7_count 2 (some .int), Cond.methodLink RX7 207 yX5_tookInAll, Cond.instanceMethod yX5_tookInAll, Cond.selects RX5 yX5_tookInAll yX5_tookInAll, Cond.code yX5_tookInAll cX5_tookInAll 1 (some .int), Cond.methodLink RL 89 yX8_count, Cond.instanceMethod yX8_count, Cond.selects RX8 yX8_count yX8_count, Cond.code yX8_count cX8_count 2 (some .int), Cond.methodLink RX8 222 yX8_countOf, Cond.instanceMethod yX8_countOf, Cond.selects RX8 yX8_countOf yX8_countOf, Cond.code yX8_countOf cX8_countOf 2 (some .int), Cond.methodLink RX8 219 yX8_takenAll, Cond.instanceMethod yX8_takenAll]
def wsL_law_r31 : List Cond := [Cond.selects RX8 yX8_takenAll yX8_takenAll, Cond.code yX8_takenAll cX8_takenAll 3 (some .int), Cond.methodLink RL 90 yX7_digest, Cond.instanceMethod yX7_digest, Cond.selects RX7 yX7_digest yX7_digest, Cond.code yX7_digest cX7_digest 5 (some .long), Cond.constantLong RX7 214 (971), Cond.methodLink RX7 216 yX7_river, Cond.methodLink RX7 219 yX7_mixed, Cond.static yX7_mixed, Cond.code yX7_mixed cX7_mixed 4 (some .long), Cond.constantLong RX7 234 (31), Cond.methodLink RX7 223 yX7_row, Cond.methodLink RX7 225 yX7_wide, Cond.methodLink RX7 231 yX7_count, Cond.methodLink RL 94 yX8_digest, Cond.instanceMethod yX8_digest, Cond.selects RX8 yX8_digest yX8_digest, Cond.code yX8_digest cX8_digest 3 (some .long), Cond.constantLong RX8 231 (971), Cond.fieldLink RX8 227 "RiversQueueModel" "hash" "J", Cond.methodLink RX8 233 yX8_say, Cond.instanceMethod yX8_say, Cond.selects RX8 yX8_say yX8_say]
def wsL_law_r32 : List Cond := [Cond.code yX8_say cX8_say 3 none, Cond.constantLong RX8 225 (31)]
def wsL_law : List Cond := (wsL_law_r1 ++ (wsL_law_r2 ++ (wsL_law_r3 ++ (wsL_law_r4 ++ (wsL_law_r5 ++ (wsL_law_r6 ++ (wsL_law_r7 ++ (wsL_law_r8 ++ (wsL_law_r9 ++ (wsL_law_r10 ++ (wsL_law_r11 ++ (wsL_law_r12 ++ (wsL_law_r13 ++ (wsL_law_r14 ++ (wsL_law_r15 ++ (wsL_law_r16 ++ (wsL_law_r17 ++ (wsL_law_r18 ++ (wsL_law_r19 ++ (wsL_law_r20 ++ (wsL_law_r21 ++ (wsL_law_r22 ++ (wsL_law_r23 ++ (wsL_law_r24 ++ (wsL_law_r25 ++ (wsL_law_r26 ++ (wsL_law_r27 ++ (wsL_law_r28 ++ (wsL_law_r29 ++ (wsL_law_r30 ++ (wsL_law_r31 ++ wsL_law_r32))))))))))))))))))))))))))))))) ++ wsX70 ++ wsX80 ++ wsX40 ++ wsX10 ++ wsX50 ++ wsX60 ++ wsX30 ++ wsX00 ++ wsX20 ++ ([] : List Cond)
set_option maxRecDepth 20000 in
theorem aw_g1 : GoodIn lw_tbl wsL_law_r1 := goodIn_r _ [57, 58, 40, 675, 676, 48, 59, 60, 61, 62, 63, 64, 65, 66, 41, 236, 81, 82, 42, 237, 110, 111, 43, 238] (by decide +kernel) (by decide +kernel)
set_option maxRecDepth 20000 in
theorem aw_g2 : GoodIn lw_tbl wsL_law_r2 := goodIn_r _ [142, 143, 44, 239, 240, 241, 163, 164, 45, 242, 207, 208, 47, 243, 68, 69, 70, 80, 71, 84, 85, 86, 87, 90] (by decide +kernel) (by decide +kernel)
set_option maxRecDepth 20000 in
theorem aw_g3 : GoodIn lw_tbl wsL_law_r3 := goodIn_r _ [112, 113, 114, 115, 117, 120, 122, 127, 116, 145, 146, 147, 148, 149, 162, 150, 165, 166, 167, 168, 169, 170, 46, 188] (by decide +kernel) (by decide +kernel)
set_option maxRecDepth 20000 in
theorem aw_g4 : GoodIn lw_tbl wsL_law_r4 := goodIn_r _ [190, 191, 183, 184, 185, 181, 186, 172, 173, 174, 182, 209, 210, 211, 212, 218, 219, 215, 216, 213, 217, 214, 677, 678] (by decide +kernel) (by decide +kernel)
set_option maxRecDepth 20000 in
theorem aw_g5 : GoodIn lw_tbl wsL_law_r5 := goodIn_r _ [679, 680, 681, 683, 691, 692, 693, 694, 695, 698, 699, 701, 703, 704, 705, 710, 711, 712, 713, 707, 270, 271, 272, 273] (by decide +kernel) (by decide +kernel)
set_option maxRecDepth 20000 in
theorem aw_g6 : GoodIn lw_tbl wsL_law_r6 := goodIn_r _ [274, 275, 276, 277, 278, 279, 280, 73, 281, 282, 283, 284, 285, 784, 785, 786, 787, 788, 682, 789, 790, 791, 286, 287] (by decide +kernel) (by decide +kernel)
set_option maxRecDepth 20000 in
theorem aw_g7 : GoodIn lw_tbl wsL_law_r7 := goodIn_r _ [288, 289, 290, 291, 292, 293, 792, 793, 794, 795, 294, 295, 296, 297, 298, 299, 300, 301, 302, 304, 0, 305, 306, 308] (by decide +kernel) (by decide +kernel)
set_option maxRecDepth 20000 in
theorem aw_g8 : GoodIn lw_tbl wsL_law_r8 := goodIn_r _ [1, 309, 310, 312, 2, 313, 316, 317, 318, 49, 319, 320, 321, 322, 323, 982, 324, 325, 326, 327, 328, 981, 330, 331] (by decide +kernel) (by decide +kernel)
set_option maxRecDepth 20000 in
theorem aw_g9 : GoodIn lw_tbl wsL_law_r9 := goodIn_r _ [332, 333, 334, 335, 336, 337, 338, 339, 50, 340, 344, 345, 51, 346, 347, 348, 349, 341, 342, 343, 350, 351, 352, 353] (by decide +kernel) (by decide +kernel)
set_option maxRecDepth 20000 in
theorem aw_g10 : GoodIn lw_tbl wsL_law_r10 := goodIn_r _ [354, 52, 355, 356, 357, 358, 359, 360, 361, 362, 363, 364, 365, 366, 367, 368, 369, 370, 371, 373, 374, 53, 375, 376] (by decide +kernel) (by decide +kernel)
set_option maxRecDepth 20000 in
theorem aw_g11 : GoodIn lw_tbl wsL_law_r11 := goodIn_r _ [377, 378, 379, 380, 381, 382, 384, 386, 388, 389, 390, 391, 392, 54, 393, 394, 395, 396, 397, 398, 399, 400, 401, 402] (by decide +kernel) (by decide +kernel)
set_option maxRecDepth 20000 in
theorem aw_g12 : GoodIn lw_tbl wsL_law_r12 := goodIn_r _ [403, 404, 796, 797, 798, 799, 800, 802, 15, 803, 684, 686, 804, 806, 16, 807, 811, 812, 685, 808, 809, 810, 406, 407] (by decide +kernel) (by decide +kernel)
set_option maxRecDepth 20000 in
theorem aw_g13 : GoodIn lw_tbl wsL_law_r13 := goodIn_r _ [408, 409, 244, 245, 410, 411, 412, 413, 414, 415, 416, 417, 418, 423, 95, 98, 419, 420, 421, 422, 424, 425, 426, 427] (by decide +kernel) (by decide +kernel)
set_option maxRecDepth 20000 in
theorem aw_g14 : GoodIn lw_tbl wsL_law_r14 := goodIn_r _ [428, 429, 430, 431, 432, 433, 434, 435, 436, 437, 438, 439, 125, 440, 441, 442, 443, 444, 445, 446, 447, 151, 813, 814] (by decide +kernel) (by decide +kernel)
set_option maxRecDepth 20000 in
theorem aw_g15 : GoodIn lw_tbl wsL_law_r15 := goodIn_r _ [815, 816, 687, 688, 689, 702, 690, 448, 449, 450, 451, 452, 453, 454, 455, 456, 457, 458, 459, 460, 461, 462, 463, 464] (by decide +kernel) (by decide +kernel)
set_option maxRecDepth 20000 in
theorem aw_g16 : GoodIn lw_tbl wsL_law_r16 := goodIn_r _ [465, 466, 467, 468, 470, 469, 55, 471, 472, 473, 474, 475, 476, 477, 478, 479, 480, 482, 3, 483, 484, 486, 4, 487] (by decide +kernel) (by decide +kernel)
set_option maxRecDepth 20000 in
theorem aw_g17 : GoodIn lw_tbl wsL_law_r17 := goodIn_r _ [488, 490, 5, 491, 492, 494, 6, 495, 496, 497, 498, 499, 500, 501, 503, 7, 504, 505, 506, 507, 508, 509, 510, 511] (by decide +kernel) (by decide +kernel)
set_option maxRecDepth 20000 in
theorem aw_g18 : GoodIn lw_tbl wsL_law_r18 := goodIn_r _ [512, 513, 514, 56, 515, 516, 518, 8, 519, 520, 522, 9, 523, 524, 817, 818, 819, 820, 821, 823, 17, 824, 825, 827] (by decide +kernel) (by decide +kernel)
set_option maxRecDepth 20000 in
theorem aw_g19 : GoodIn lw_tbl wsL_law_r19 := goodIn_r _ [18, 828, 829, 831, 19, 832, 833, 835, 20, 836, 696, 837, 839, 21, 840, 841, 842, 843, 844, 846, 22, 847, 697, 848] (by decide +kernel) (by decide +kernel)
set_option maxRecDepth 20000 in
theorem aw_g20 : GoodIn lw_tbl wsL_law_r20 := goodIn_r _ [850, 23, 851, 852, 854, 24, 855, 856, 858, 25, 859, 860, 862, 26, 863, 864, 866, 27, 867, 868, 870, 28, 871, 525] (by decide +kernel) (by decide +kernel)
set_option maxRecDepth 20000 in
theorem aw_g21 : GoodIn lw_tbl wsL_law_r21 := goodIn_r _ [526, 527, 528, 529, 530, 531, 872, 873, 874, 875, 876, 532, 533, 534, 535, 877, 878, 879, 880, 536, 537, 538, 539, 540] (by decide +kernel) (by decide +kernel)
set_option maxRecDepth 20000 in
theorem aw_g22 : GoodIn lw_tbl wsL_law_r22 := goodIn_r _ [541, 542, 543, 544, 881, 882, 883, 884, 885, 887, 29, 888, 545, 546, 547, 548, 549, 889, 890, 891, 892, 893, 894, 896] (by decide +kernel) (by decide +kernel)
set_option maxRecDepth 20000 in
theorem aw_g23 : GoodIn lw_tbl wsL_law_r23 := goodIn_r _ [30, 897, 550, 551, 552, 553, 554, 555, 556, 557, 558, 898, 899, 900, 901, 559, 560, 561, 562, 563, 564, 565, 566, 567] (by decide +kernel) (by decide +kernel)
set_option maxRecDepth 20000 in
theorem aw_g24 : GoodIn lw_tbl wsL_law_r24 := goodIn_r _ [568, 569, 570, 571, 573, 10, 574, 575, 576, 577, 578, 902, 903, 904, 905, 906, 907, 909, 31, 910, 911, 913, 32, 914] (by decide +kernel) (by decide +kernel)
set_option maxRecDepth 20000 in
theorem aw_g25 : GoodIn lw_tbl wsL_law_r25 := goodIn_r _ [579, 580, 581, 582, 246, 583, 584, 585, 586, 221, 587, 589, 11, 590, 592, 591, 593, 594, 595, 597, 12, 598, 599, 601] (by decide +kernel) (by decide +kernel)
set_option maxRecDepth 20000 in
theorem aw_g26 : GoodIn lw_tbl wsL_law_r26 := goodIn_r _ [13, 602, 603, 605, 14, 606, 915, 916, 917, 918, 919, 920, 700, 921, 923, 33, 924, 925, 927, 34, 928, 607, 608, 609] (by decide +kernel) (by decide +kernel)
set_option maxRecDepth 20000 in
theorem aw_g27 : GoodIn lw_tbl wsL_law_r27 := goodIn_r _ [610, 611, 612, 613, 614, 615, 616, 617, 618, 619, 929, 930, 931, 932, 933, 620, 621, 622, 623, 934, 935, 936, 937, 624] (by decide +kernel) (by decide +kernel)
set_option maxRecDepth 20000 in
theorem aw_g28 : GoodIn lw_tbl wsL_law_r28 := goodIn_r _ [625, 626, 627, 628, 629, 630, 631, 632, 633, 634, 635, 636, 175, 637, 638, 639, 640, 938, 939, 940, 941, 942, 706, 943] (by decide +kernel) (by decide +kernel)
set_option maxRecDepth 20000 in
theorem aw_g29 : GoodIn lw_tbl wsL_law_r29 := goodIn_r _ [945, 35, 946, 947, 948, 949, 950, 641, 642, 643, 644, 645, 646, 647, 648, 649, 951, 952, 953, 954, 708, 709, 650, 651] (by decide +kernel) (by decide +kernel)
set_option maxRecDepth 20000 in
theorem aw_g30 : GoodIn lw_tbl wsL_law_r30 := goodIn_r _ [652, 653, 955, 956, 957, 958, 654, 655, 656, 657, 658, 659, 660, 661, 959, 960, 961, 962, 963, 965, 36, 966, 967, 969] (by decide +kernel) (by decide +kernel)
set_option maxRecDepth 20000 in
theorem aw_g31 : GoodIn lw_tbl wsL_law_r31 := goodIn_r _ [37, 970, 662, 663, 664, 665, 666, 667, 668, 669, 670, 671, 672, 673, 674, 971, 972, 973, 974, 975, 714, 976, 978, 38] (by decide +kernel) (by decide +kernel)
set_option maxRecDepth 20000 in
theorem aw_g32 : GoodIn lw_tbl wsL_law_r32 := goodIn_r _ [979, 980] (by decide +kernel) (by decide +kernel)
set_option maxRecDepth 20000 in
theorem aw_g_wsX70 : GoodIn lw_tbl wsX70 := goodIn_r _ [247, 249, 251, 253, 255, 257, 259, 261, 263, 265, 267] (by decide +kernel) (by decide +kernel)
set_option maxRecDepth 20000 in
theorem aw_g_wsX80 : GoodIn lw_tbl wsX80 := goodIn_r _ [715, 717, 719, 721, 723, 725, 727, 729, 731, 733, 735, 737, 739, 741, 743, 745, 747, 749, 751, 753, 755, 757, 759, 761, 763, 765, 767, 769, 771, 773, 775, 777, 779, 781] (by decide +kernel) (by decide +kernel)
set_option maxRecDepth 20000 in
theorem aw_g_wsX40 : GoodIn lw_tbl wsX40 := goodIn_r _ [75, 77] (by decide +kernel) (by decide +kernel)
set_option maxRecDepth 20000 in
theorem aw_g_wsX10 : GoodIn lw_tbl wsX10 := goodIn_r _ [101, 103, 105, 107] (by decide +kernel) (by decide +kernel)
set_option maxRecDepth 20000 in
theorem aw_g_wsX50 : GoodIn lw_tbl wsX50 := goodIn_r _ [129, 131, 133, 135, 137, 139] (by decide +kernel) (by decide +kernel)
set_option maxRecDepth 20000 in
theorem aw_g_wsX60 : GoodIn lw_tbl wsX60 := goodIn_r _ [153, 155, 157, 159] (by decide +kernel) (by decide +kernel)
set_option maxRecDepth 20000 in
theorem aw_g_wsX30 : GoodIn lw_tbl wsX30 := goodIn_r _ [192, 194, 196, 198, 200, 202, 204] (by decide +kernel) (by decide +kernel)
set_option maxRecDepth 20000 in
theorem aw_g_wsX00 : GoodIn lw_tbl wsX00 := goodIn_r _ [223, 225, 227, 229, 231, 233] (by decide +kernel) (by decide +kernel)
set_option maxRecDepth 20000 in
theorem aw_g_wsX20 : GoodIn lw_tbl wsX20 := goodIn_r _ [178] (by decide +kernel) (by decide +kernel)
theorem wsL_law_gd : GoodIn lw_tbl wsL_law := goodIn_app (goodIn_app (goodIn_app (goodIn_app (goodIn_app (goodIn_app (goodIn_app (goodIn_app (goodIn_app (goodIn_app (goodIn_app aw_g1 (goodIn_app aw_g2 (goodIn_app aw_g3 (goodIn_app aw_g4 (goodIn_app aw_g5 (goodIn_app aw_g6 (goodIn_app aw_g7 (goodIn_app aw_g8 (goodIn_app aw_g9 (goodIn_app aw_g10 (goodIn_app aw_g11 (goodIn_app aw_g12 (goodIn_app aw_g13 (goodIn_app aw_g14 (goodIn_app aw_g15 (goodIn_app aw_g16 (goodIn_app aw_g17 (goodIn_app aw_g18 (goodIn_app aw_g19 (goodIn_app aw_g20 (goodIn_app aw_g21 (goodIn_app aw_g22 (goodIn_app aw_g23 (goodIn_app aw_g24 (goodIn_app aw_g25 (goodIn_app aw_g26 (goodIn_app aw_g27 (goodIn_app aw_g28 (goodIn_app aw_g29 (goodIn_app aw_g30 (goodIn_app aw_g31 (aw_g32)))))))))))))))))))))))))))))))) aw_g_wsX70) aw_g_wsX80) aw_g_wsX40) aw_g_wsX10) aw_g_wsX50) aw_g_wsX60) aw_g_wsX30) aw_g_wsX00) aw_g_wsX20) (fun _ h => absurd h List.not_mem_nil)
theorem wsL_law_in : ∀ w ∈ wsL_law, w ∈ lw_tbl := fun w h => (wsL_law_gd w h).1
theorem inlX0 : ∀ w ∈ wsX00, w ∈ wsL_law := fun _ h => List.mem_append_left _ (List.mem_append_left _ (List.mem_append_right _ h))
theorem inlX1 : ∀ w ∈ wsX10, w ∈ wsL_law := fun _ h => List.mem_append_left _ (List.mem_append_left _ (List.mem_append_left _ (List.mem_append_left _ (List.mem_append_left _ (List.mem_append_left _ (List.mem_append_right _ h))))))
theorem inlX2 : ∀ w ∈ wsX20, w ∈ wsL_law := fun _ h => List.mem_append_left _ (List.mem_append_right _ h)
theorem inlX3 : ∀ w ∈ wsX30, w ∈ wsL_law := fun _ h => List.mem_append_left _ (List.mem_append_left _ (List.mem_append_left _ (List.mem_append_right _ h)))
theorem inlX4 : ∀ w ∈ wsX40, w ∈ wsL_law := fun _ h => List.mem_append_left _ (List.mem_append_left _ (List.mem_append_left _ (List.mem_append_left _ (List.mem_append_left _ (List.mem_append_left _ (List.mem_append_left _ (List.mem_append_right _ h)))))))
theorem inlX5 : ∀ w ∈ wsX50, w ∈ wsL_law := fun _ h => List.mem_append_left _ (List.mem_append_left _ (List.mem_append_left _ (List.mem_append_left _ (List.mem_append_left _ (List.mem_append_right _ h)))))
theorem inlX6 : ∀ w ∈ wsX60, w ∈ wsL_law := fun _ h => List.mem_append_left _ (List.mem_append_left _ (List.mem_append_left _ (List.mem_append_left _ (List.mem_append_right _ h))))
theorem inlX7 : ∀ w ∈ wsX70, w ∈ wsL_law := fun _ h => List.mem_append_left _ (List.mem_append_left _ (List.mem_append_left _ (List.mem_append_left _ (List.mem_append_left _ (List.mem_append_left _ (List.mem_append_left _ (List.mem_append_left _ (List.mem_append_left _ (List.mem_append_right _ h)))))))))
theorem inlX8 : ∀ w ∈ wsX80, w ∈ wsL_law := fun _ h => List.mem_append_left _ (List.mem_append_left _ (List.mem_append_left _ (List.mem_append_left _ (List.mem_append_left _ (List.mem_append_left _ (List.mem_append_left _ (List.mem_append_left _ (List.mem_append_right _ h))))))))
abbrev vwCl : List vw_C := [(RX0, TX0, 6), (RX1, TX1, 4), (RX2, TX2, 1), (RX3, TX3, 7), (RX4, TX4, 2), (RX5, TX5, 6), (RX6, TX6, 4), (RX7, TX7, 11), (RX8, TX8, 34)]
end
