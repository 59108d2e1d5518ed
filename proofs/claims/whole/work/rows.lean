section
-- ===== PART A: goes FIRST, ahead of the names: the tables' words, and 'selects' of the private methods out of them =====
/-- a private method of a class that the tables say can be made, by its rows of tables_1 -/
def lw_okq (q : MethodName × Nat) : Prop := (q.1.cls ≠ "java/lang/invoke/MethodHandle" ∧ q.1.cls ≠ "java/lang/invoke/VarHandle") ∧ Cond.instantiable q.1.cls q.2 ∈ tables_1 ∧ Cond.privateMethod q.1 ∈ tables_1 ∧ Cond.instanceMethod q.1 ∈ tables_1
theorem lw_p0 : lw_okq (⟨"VowDoves$Page", "fits", "(I)Z"⟩, 3) := ⟨⟨by decide +kernel, by decide +kernel⟩, List.mem_of_getElem? (i := 26) (by decide +kernel), List.mem_of_getElem? (i := 217) (by decide +kernel), List.mem_of_getElem? (i := 218) (by decide +kernel)⟩
theorem lw_p1 : lw_okq (⟨"VowDoves$Page", "endsKeeper", "(II)Z"⟩, 3) := ⟨⟨by decide +kernel, by decide +kernel⟩, List.mem_of_getElem? (i := 26) (by decide +kernel), List.mem_of_getElem? (i := 311) (by decide +kernel), List.mem_of_getElem? (i := 312) (by decide +kernel)⟩
theorem lw_p2 : lw_okq (⟨"VowDoves", "possibleFaiths", "(I)I"⟩, 8) := ⟨⟨by decide +kernel, by decide +kernel⟩, List.mem_of_getElem? (i := 18) (by decide +kernel), List.mem_of_getElem? (i := 356) (by decide +kernel), List.mem_of_getElem? (i := 357) (by decide +kernel)⟩
theorem lw_p3 : lw_okq (⟨"VowDoves", "likelihood", "(II)J"⟩, 8) := ⟨⟨by decide +kernel, by decide +kernel⟩, List.mem_of_getElem? (i := 18) (by decide +kernel), List.mem_of_getElem? (i := 360) (by decide +kernel), List.mem_of_getElem? (i := 361) (by decide +kernel)⟩
theorem lw_p4 : lw_okq (⟨"VowDoves", "likelyFaith", "(I)I"⟩, 8) := ⟨⟨by decide +kernel, by decide +kernel⟩, List.mem_of_getElem? (i := 18) (by decide +kernel), List.mem_of_getElem? (i := 372) (by decide +kernel), List.mem_of_getElem? (i := 373) (by decide +kernel)⟩
theorem lw_p5 : lw_okq (⟨"VowDoves$Matching", "weigh", "(LVowDoves$Cote;IZ)I"⟩, 6) := ⟨⟨by decide +kernel, by decide +kernel⟩, List.mem_of_getElem? (i := 129) (by decide +kernel), List.mem_of_getElem? (i := 457) (by decide +kernel), List.mem_of_getElem? (i := 458) (by decide +kernel)⟩
theorem lw_p6 : lw_okq (⟨"VowDoves$Centuries", "passYear", "(LVowDoves$Cote;II)V"⟩, 3) := ⟨⟨by decide +kernel, by decide +kernel⟩, List.mem_of_getElem? (i := 158) (by decide +kernel), List.mem_of_getElem? (i := 486) (by decide +kernel), List.mem_of_getElem? (i := 487) (by decide +kernel)⟩
theorem lw_p7 : lw_okq (⟨"VowDoves$Centuries", "drawOfTen", "()J"⟩, 3) := ⟨⟨by decide +kernel, by decide +kernel⟩, List.mem_of_getElem? (i := 158) (by decide +kernel), List.mem_of_getElem? (i := 490) (by decide +kernel), List.mem_of_getElem? (i := 491) (by decide +kernel)⟩
theorem lw_p8 : lw_okq (⟨"VowDoves", "digestKeeper", "(JI)J"⟩, 8) := ⟨⟨by decide +kernel, by decide +kernel⟩, List.mem_of_getElem? (i := 18) (by decide +kernel), List.mem_of_getElem? (i := 535) (by decide +kernel), List.mem_of_getElem? (i := 536) (by decide +kernel)⟩
theorem lw_p9 : lw_okq (⟨"VowDoves", "digestWhatWouldBe", "(J)J"⟩, 8) := ⟨⟨by decide +kernel, by decide +kernel⟩, List.mem_of_getElem? (i := 18) (by decide +kernel), List.mem_of_getElem? (i := 546) (by decide +kernel), List.mem_of_getElem? (i := 547) (by decide +kernel)⟩
theorem lw_p10 : lw_okq (⟨"VowDovesModel", "faultOf", "()I"⟩, 22) := ⟨⟨by decide +kernel, by decide +kernel⟩, List.mem_of_getElem? (i := 552) (by decide +kernel), List.mem_of_getElem? (i := 641) (by decide +kernel), List.mem_of_getElem? (i := 642) (by decide +kernel)⟩
theorem lw_p11 : lw_okq (⟨"VowDovesModel", "isGood", "(I)Z"⟩, 22) := ⟨⟨by decide +kernel, by decide +kernel⟩, List.mem_of_getElem? (i := 552) (by decide +kernel), List.mem_of_getElem? (i := 645) (by decide +kernel), List.mem_of_getElem? (i := 646) (by decide +kernel)⟩
theorem lw_p12 : lw_okq (⟨"VowDovesModel", "empty", "(I)V"⟩, 22) := ⟨⟨by decide +kernel, by decide +kernel⟩, List.mem_of_getElem? (i := 552) (by decide +kernel), List.mem_of_getElem? (i := 658) (by decide +kernel), List.mem_of_getElem? (i := 659) (by decide +kernel)⟩
theorem lw_p13 : lw_okq (⟨"VowDovesModel", "isKeeper", "(I)Z"⟩, 22) := ⟨⟨by decide +kernel, by decide +kernel⟩, List.mem_of_getElem? (i := 552) (by decide +kernel), List.mem_of_getElem? (i := 666) (by decide +kernel), List.mem_of_getElem? (i := 667) (by decide +kernel)⟩
theorem lw_p14 : lw_okq (⟨"VowDovesModel", "tellKeeper", "(II)I"⟩, 22) := ⟨⟨by decide +kernel, by decide +kernel⟩, List.mem_of_getElem? (i := 552) (by decide +kernel), List.mem_of_getElem? (i := 670) (by decide +kernel), List.mem_of_getElem? (i := 671) (by decide +kernel)⟩
theorem lw_p15 : lw_okq (⟨"VowDovesModel", "setOf", "(I)I"⟩, 22) := ⟨⟨by decide +kernel, by decide +kernel⟩, List.mem_of_getElem? (i := 552) (by decide +kernel), List.mem_of_getElem? (i := 674) (by decide +kernel), List.mem_of_getElem? (i := 675) (by decide +kernel)⟩
def lw_privs_1 : List (MethodName × Nat) := [(⟨"VowDoves$Page", "fits", "(I)Z"⟩, 3), (⟨"VowDoves$Page", "endsKeeper", "(II)Z"⟩, 3), (⟨"VowDoves", "possibleFaiths", "(I)I"⟩, 8), (⟨"VowDoves", "likelihood", "(II)J"⟩, 8), (⟨"VowDoves", "likelyFaith", "(I)I"⟩, 8), (⟨"VowDoves$Matching", "weigh", "(LVowDoves$Cote;IZ)I"⟩, 6), (⟨"VowDoves$Centuries", "passYear", "(LVowDoves$Cote;II)V"⟩, 3), (⟨"VowDoves$Centuries", "drawOfTen", "()J"⟩, 3), (⟨"VowDoves", "digestKeeper", "(JI)J"⟩, 8), (⟨"VowDoves", "digestWhatWouldBe", "(J)J"⟩, 8), (⟨"VowDovesModel", "faultOf", "()I"⟩, 22), (⟨"VowDovesModel", "isGood", "(I)Z"⟩, 22), (⟨"VowDovesModel", "empty", "(I)V"⟩, 22), (⟨"VowDovesModel", "isKeeper", "(I)Z"⟩, 22), (⟨"VowDovesModel", "tellKeeper", "(II)I"⟩, 22), (⟨"VowDovesModel", "setOf", "(I)I"⟩, 22)]
theorem lw_r1 : ∀ q ∈ lw_privs_1, lw_okq q := List.forall_mem_cons.mpr ⟨lw_p0, List.forall_mem_cons.mpr ⟨lw_p1, List.forall_mem_cons.mpr ⟨lw_p2, List.forall_mem_cons.mpr ⟨lw_p3, List.forall_mem_cons.mpr ⟨lw_p4, List.forall_mem_cons.mpr ⟨lw_p5, List.forall_mem_cons.mpr ⟨lw_p6, List.forall_mem_cons.mpr ⟨lw_p7, List.forall_mem_cons.mpr ⟨lw_p8, List.forall_mem_cons.mpr ⟨lw_p9, List.forall_mem_cons.mpr ⟨lw_p10, List.forall_mem_cons.mpr ⟨lw_p11, List.forall_mem_cons.mpr ⟨lw_p12, List.forall_mem_cons.mpr ⟨lw_p13, List.forall_mem_cons.mpr ⟨lw_p14, List.forall_mem_cons.mpr ⟨lw_p15, fun _ h => absurd h List.not_mem_nil⟩⟩⟩⟩⟩⟩⟩⟩⟩⟩⟩⟩⟩⟩⟩⟩
theorem lw_p16 : lw_okq (⟨"VowDovesModel", "eggsIn", "(I)I"⟩, 22) := ⟨⟨by decide +kernel, by decide +kernel⟩, List.mem_of_getElem? (i := 552) (by decide +kernel), List.mem_of_getElem? (i := 678) (by decide +kernel), List.mem_of_getElem? (i := 679) (by decide +kernel)⟩
theorem lw_p17 : lw_okq (⟨"VowDovesModel", "faithsOf", "(I)I"⟩, 22) := ⟨⟨by decide +kernel, by decide +kernel⟩, List.mem_of_getElem? (i := 552) (by decide +kernel), List.mem_of_getElem? (i := 682) (by decide +kernel), List.mem_of_getElem? (i := 683) (by decide +kernel)⟩
theorem lw_p18 : lw_okq (⟨"VowDovesModel", "waysBy", "(II)J"⟩, 22) := ⟨⟨by decide +kernel, by decide +kernel⟩, List.mem_of_getElem? (i := 552) (by decide +kernel), List.mem_of_getElem? (i := 686) (by decide +kernel), List.mem_of_getElem? (i := 687) (by decide +kernel)⟩
theorem lw_p19 : lw_okq (⟨"VowDovesModel", "likelyOf", "(I)I"⟩, 22) := ⟨⟨by decide +kernel, by decide +kernel⟩, List.mem_of_getElem? (i := 552) (by decide +kernel), List.mem_of_getElem? (i := 693) (by decide +kernel), List.mem_of_getElem? (i := 694) (by decide +kernel)⟩
theorem lw_p20 : lw_okq (⟨"VowDovesModel", "tenthsOf", "(II)I"⟩, 22) := ⟨⟨by decide +kernel, by decide +kernel⟩, List.mem_of_getElem? (i := 552) (by decide +kernel), List.mem_of_getElem? (i := 707) (by decide +kernel), List.mem_of_getElem? (i := 708) (by decide +kernel)⟩
theorem lw_p21 : lw_okq (⟨"VowDovesModel", "isHole", "(I)Z"⟩, 22) := ⟨⟨by decide +kernel, by decide +kernel⟩, List.mem_of_getElem? (i := 552) (by decide +kernel), List.mem_of_getElem? (i := 715) (by decide +kernel), List.mem_of_getElem? (i := 716) (by decide +kernel)⟩
theorem lw_p22 : lw_okq (⟨"VowDovesModel", "tellHole", "(II)I"⟩, 22) := ⟨⟨by decide +kernel, by decide +kernel⟩, List.mem_of_getElem? (i := 552) (by decide +kernel), List.mem_of_getElem? (i := 719) (by decide +kernel), List.mem_of_getElem? (i := 720) (by decide +kernel)⟩
theorem lw_p23 : lw_okq (⟨"VowDovesModel", "tenthsIn", "(I)I"⟩, 22) := ⟨⟨by decide +kernel, by decide +kernel⟩, List.mem_of_getElem? (i := 552) (by decide +kernel), List.mem_of_getElem? (i := 724) (by decide +kernel), List.mem_of_getElem? (i := 725) (by decide +kernel)⟩
theorem lw_p24 : lw_okq (⟨"VowDovesModel", "lacks", "()Z"⟩, 22) := ⟨⟨by decide +kernel, by decide +kernel⟩, List.mem_of_getElem? (i := 552) (by decide +kernel), List.mem_of_getElem? (i := 743) (by decide +kernel), List.mem_of_getElem? (i := 744) (by decide +kernel)⟩
theorem lw_p25 : lw_okq (⟨"VowDovesModel", "keepVow", "(I)V"⟩, 22) := ⟨⟨by decide +kernel, by decide +kernel⟩, List.mem_of_getElem? (i := 552) (by decide +kernel), List.mem_of_getElem? (i := 747) (by decide +kernel), List.mem_of_getElem? (i := 748) (by decide +kernel)⟩
theorem lw_p26 : lw_okq (⟨"VowDovesModel", "oddsOf", "(II)J"⟩, 22) := ⟨⟨by decide +kernel, by decide +kernel⟩, List.mem_of_getElem? (i := 552) (by decide +kernel), List.mem_of_getElem? (i := 762) (by decide +kernel), List.mem_of_getElem? (i := 763) (by decide +kernel)⟩
theorem lw_p27 : lw_okq (⟨"VowDovesModel", "matchOf", "(I)I"⟩, 22) := ⟨⟨by decide +kernel, by decide +kernel⟩, List.mem_of_getElem? (i := 552) (by decide +kernel), List.mem_of_getElem? (i := 775) (by decide +kernel), List.mem_of_getElem? (i := 776) (by decide +kernel)⟩
theorem lw_p28 : lw_okq (⟨"VowDovesModel", "layRow", "(I)I"⟩, 22) := ⟨⟨by decide +kernel, by decide +kernel⟩, List.mem_of_getElem? (i := 552) (by decide +kernel), List.mem_of_getElem? (i := 779) (by decide +kernel), List.mem_of_getElem? (i := 780) (by decide +kernel)⟩
theorem lw_p29 : lw_okq (⟨"VowDovesModel", "draw", "(I)I"⟩, 22) := ⟨⟨by decide +kernel, by decide +kernel⟩, List.mem_of_getElem? (i := 552) (by decide +kernel), List.mem_of_getElem? (i := 799) (by decide +kernel), List.mem_of_getElem? (i := 800) (by decide +kernel)⟩
theorem lw_p30 : lw_okq (⟨"VowDovesModel", "countOf", "(I)I"⟩, 22) := ⟨⟨by decide +kernel, by decide +kernel⟩, List.mem_of_getElem? (i := 552) (by decide +kernel), List.mem_of_getElem? (i := 819) (by decide +kernel), List.mem_of_getElem? (i := 820) (by decide +kernel)⟩
theorem lw_p31 : lw_okq (⟨"VowDovesModel", "birds", "(I)I"⟩, 22) := ⟨⟨by decide +kernel, by decide +kernel⟩, List.mem_of_getElem? (i := 552) (by decide +kernel), List.mem_of_getElem? (i := 823) (by decide +kernel), List.mem_of_getElem? (i := 824) (by decide +kernel)⟩
def lw_privs_2 : List (MethodName × Nat) := [(⟨"VowDovesModel", "eggsIn", "(I)I"⟩, 22), (⟨"VowDovesModel", "faithsOf", "(I)I"⟩, 22), (⟨"VowDovesModel", "waysBy", "(II)J"⟩, 22), (⟨"VowDovesModel", "likelyOf", "(I)I"⟩, 22), (⟨"VowDovesModel", "tenthsOf", "(II)I"⟩, 22), (⟨"VowDovesModel", "isHole", "(I)Z"⟩, 22), (⟨"VowDovesModel", "tellHole", "(II)I"⟩, 22), (⟨"VowDovesModel", "tenthsIn", "(I)I"⟩, 22), (⟨"VowDovesModel", "lacks", "()Z"⟩, 22), (⟨"VowDovesModel", "keepVow", "(I)V"⟩, 22), (⟨"VowDovesModel", "oddsOf", "(II)J"⟩, 22), (⟨"VowDovesModel", "matchOf", "(I)I"⟩, 22), (⟨"VowDovesModel", "layRow", "(I)I"⟩, 22), (⟨"VowDovesModel", "draw", "(I)I"⟩, 22), (⟨"VowDovesModel", "countOf", "(I)I"⟩, 22), (⟨"VowDovesModel", "birds", "(I)I"⟩, 22)]
theorem lw_r2 : ∀ q ∈ lw_privs_2, lw_okq q := List.forall_mem_cons.mpr ⟨lw_p16, List.forall_mem_cons.mpr ⟨lw_p17, List.forall_mem_cons.mpr ⟨lw_p18, List.forall_mem_cons.mpr ⟨lw_p19, List.forall_mem_cons.mpr ⟨lw_p20, List.forall_mem_cons.mpr ⟨lw_p21, List.forall_mem_cons.mpr ⟨lw_p22, List.forall_mem_cons.mpr ⟨lw_p23, List.forall_mem_cons.mpr ⟨lw_p24, List.forall_mem_cons.mpr ⟨lw_p25, List.forall_mem_cons.mpr ⟨lw_p26, List.forall_mem_cons.mpr ⟨lw_p27, List.forall_mem_cons.mpr ⟨lw_p28, List.forall_mem_cons.mpr ⟨lw_p29, List.forall_mem_cons.mpr ⟨lw_p30, List.forall_mem_cons.mpr ⟨lw_p31, fun _ h => absurd h List.not_mem_nil⟩⟩⟩⟩⟩⟩⟩⟩⟩⟩⟩⟩⟩⟩⟩⟩
theorem lw_p32 : lw_okq (⟨"VowDovesModel", "brokenAll", "()I"⟩, 22) := ⟨⟨by decide +kernel, by decide +kernel⟩, List.mem_of_getElem? (i := 552) (by decide +kernel), List.mem_of_getElem? (i := 827) (by decide +kernel), List.mem_of_getElem? (i := 828) (by decide +kernel)⟩
theorem lw_p33 : lw_okq (⟨"VowDovesModel", "sayKeeper", "(I)V"⟩, 22) := ⟨⟨by decide +kernel, by decide +kernel⟩, List.mem_of_getElem? (i := 552) (by decide +kernel), List.mem_of_getElem? (i := 836) (by decide +kernel), List.mem_of_getElem? (i := 837) (by decide +kernel)⟩
theorem lw_p34 : lw_okq (⟨"VowDovesModel", "say", "(J)V"⟩, 22) := ⟨⟨by decide +kernel, by decide +kernel⟩, List.mem_of_getElem? (i := 552) (by decide +kernel), List.mem_of_getElem? (i := 840) (by decide +kernel), List.mem_of_getElem? (i := 841) (by decide +kernel)⟩
def lw_privs_3 : List (MethodName × Nat) := [(⟨"VowDovesModel", "brokenAll", "()I"⟩, 22), (⟨"VowDovesModel", "sayKeeper", "(I)V"⟩, 22), (⟨"VowDovesModel", "say", "(J)V"⟩, 22)]
theorem lw_r3 : ∀ q ∈ lw_privs_3, lw_okq q := List.forall_mem_cons.mpr ⟨lw_p32, List.forall_mem_cons.mpr ⟨lw_p33, List.forall_mem_cons.mpr ⟨lw_p34, fun _ h => absurd h List.not_mem_nil⟩⟩⟩
def lw_privs : List (MethodName × Nat) := lw_privs_1 ++ (lw_privs_2 ++ (lw_privs_3))
def lw_tbl : List Cond := k2_sels lw_privs ++ tables_1
theorem lw_privs_ok : ∀ q ∈ lw_privs, lw_okq q := by
  show ∀ q ∈ lw_privs_1 ++ (lw_privs_2 ++ (lw_privs_3)), lw_okq q
  exact List.forall_mem_append.mpr ⟨lw_r1, List.forall_mem_append.mpr ⟨lw_r2, lw_r3⟩⟩
end
section
/-! ===== BEGIN words of one list among another's, by their places ===== -/
theorem goodIn_r {big : List Cond} (ws : List Cond) (ps : List Nat) (hp : ws = ps.filterMap (fun i => big[i]?)) (h : ws.all goodWord = true) : GoodIn big ws := by
  intro w hw
  have h1 := List.all_eq_true.mp h w hw
  rw [hp] at hw
  obtain ⟨i, -, hi⟩ := List.mem_filterMap.mp hw
  have hm : w ∈ big := by first | exact List.mem_of_getElem? hi | exact List.getElem?_mem hi
  exact ⟨hm, good_of_word h1⟩
theorem goodIn_app {big a b : List Cond} (ha : GoodIn big a) (hb : GoodIn big b) : GoodIn big (a ++ b) := fun w h => (List.mem_append.mp h).elim (ha w) (hb w)
theorem goodIn_ca {big a b : List Cond} {c : Cond} (ha : GoodIn big (c :: a)) (hb : GoodIn big b) : GoodIn big (c :: (a ++ b)) := fun w h => (List.mem_cons.mp h).elim (fun e => ha w (List.mem_cons.mpr (Or.inl e))) (fun h => (List.mem_append.mp h).elim (fun h => ha w (List.mem_cons.mpr (Or.inr h))) (hb w))
theorem goodIn_sub {big ws : List Cond} (hm : ∀ w ∈ ws, w ∈ big) (h : ws.all goodWord = true) : GoodIn big ws := fun w hw => ⟨hm w hw, good_of_word (List.all_eq_true.mp h w hw)⟩
/-! ===== END ===== -/

/-! ===== BEGIN new T[n][m]: the outer array a place, the inner ones among the pooled ===== -/
/-- f, but v at every address of l -/
def vr_up {α : Type} (f : Nat → α) (l : List Nat) (v : α) : Nat → α := fun a => if a ∈ l then v else f a
theorem vr_up_in {α : Type} {f : Nat → α} {l : List Nat} {v : α} {a : Nat} (h : a ∈ l) : vr_up f l v a = v := if_pos h
theorem vr_up_ne {α : Type} {f : Nat → α} {l : List Nat} {v : α} {a : Nat} (h : a ∉ l) : vr_up f l v a = f a := if_neg h
theorem vr_rows {L l : List Nat} {f : Nat → va_E} {e : va_E} (h : ∀ a, a ∈ l → a ∉ L) : va_pl L f ++ l.map (fun a => (a, e)) = va_pl (L ++ l) (vr_up f l e) := by
  unfold va_pl
  rw [List.map_append]
  congr 1
  · apply List.map_congr_left
    intro a ha
    rw [vr_up_ne (fun q => h a q ha)]
  · apply List.map_congr_left
    intro a ha
    rw [vr_up_in ha]
theorem vr_lay {X rows : va_W} {x : Nat × va_E} {pl : va_W} {D : va_G} {cl : List vw_C} {H : Heap} (hP : va_P D cl (((X ++ pl) ++ [x]) ++ rows) H) : va_P D cl ((X ++ [x]) ++ (pl ++ rows)) H := by
  rw [List.append_assoc (X ++ pl)] at hP
  have h := va_P.swap hP
  rw [← List.append_assoc X] at h
  have h2 := va_P.swap h
  rw [List.append_assoc (X ++ [x])] at h2
  exact h2
theorem vr_layD {X rows : va_W} {x : Nat × va_E} {pl : va_W} {A : Nat → Prop} (hD : va_D A (((X ++ pl) ++ [x]) ++ rows)) : va_D A ((X ++ [x]) ++ (pl ++ rows)) := by
  rw [List.append_assoc (X ++ pl)] at hD
  have h := va_D.swap hD
  rw [← List.append_assoc X] at h
  have h2 := va_D.swap h
  rw [List.append_assoc (X ++ [x])] at h2
  exact h2
theorem vr_outer (c : ClassId) (N h0 : Nat) : ∀ i : Nat, Jvm.Free.Multi.outerC c N h0 i = arrV c N (fun j => va_rf (if j < i then some (h0 + 1 + j) else none))
  | 0 => by
    show ({ cls := c, slots := Array.replicate N .null, vm := .none } : Cell) = _
    rw [arrV_new]
    refine congrArg (arrV c N) (funext fun j => ?_)
    simp [va_rf]
  | i + 1 => by
    show (Jvm.Free.Multi.outerC c N h0 i).setSlot i (.ref (h0 + 1 + i)) = _
    rw [vr_outer c N h0 i, arrV_store]
    refine congrArg (arrV c N) (funext fun j => ?_)
    by_cases e : j = i
    · subst e
      simp [updV, va_rf]
    · by_cases h : j < i
      · simp [updV, e, h, Nat.lt_succ_of_lt h]
      · simp [updV, e, h, show ¬ j < i + 1 by omega]
def va_AOA (ty : FieldType) (U : State) : Prop := (Cond.arrayOver (.array ty)).before #[] U = true
theorem va_AOA.of {ty : FieldType} {A : Array Value} {U : State} (h : (Cond.arrayOver (.array ty)).before A U = true) : va_AOA ty U := h
theorem va_AOA.use {ty : FieldType} {A : Array Value} {U : State} (h : va_AOA ty U) : (Cond.arrayOver (.array ty)).before A U = true := h
section VGM
variable {p : Program} {l : Launch} {e : Env} {R : Room} {s : State} {m : MethodId} {args : Array Value} {below : List Frame} {meth : Method} {c : Code} {H : Heap} {locs : List Loc} {cells slots : Nat} {Q : State → Prop}
variable {cc : ByteArray} {pc : Nat} {ls : Array Slot} {rest : List Value} {D : va_G} {cl : List vw_C} {A : Nat → Prop} {a : Nat} {tys : List (ClassId × FieldType)} {ws : va_W} {H0 : Heap}
theorem va_mna {X : va_W} {L : List Nat} {f : Nat → va_E} {cc : ByteArray} (hexec : p.tables.exec = Jvm.exec) (hb : c.code = cc) {own : String} {index : Nat} {ty : FieldType} {cy : ClassId} (hown : s.vm.findClass own = some m.cls) (hclink : (Cond.classLink own index ("[" ++ (FieldType.array ty).toString)).before args s = true) (hover : va_AOA ty s) (harr : (Cond.arrayClass ty).before args s = true) (hcy : s.vm.findClass (FieldType.array ty).toString = some cy)
    (hK : va_K D cl tys s) (hP : va_P D cl (X ++ va_pl L f) H) (hD : va_D A (X ++ va_pl L f)) (hS : va_S A H0 H locs) (hA : ∀ q, H0.size ≤ q → A q) {n k : Int32} {N' K' : Nat} {z : vp_A} (hn : ¬ n < 0) (hk : ¬ k < 0) (hN : n.toNatClampNeg = N') (hM : k.toNatClampNeg = K')
    (hb1 : N' * 4 ≤ 536870912) (hb2 : K' * componentBytes ty ≤ 536870912) (hb3 : K' ≤ 536870912) (hdf : fits ty (defaultValue ty) = true) (hdd : (defaultValue ty).isDefault = true) (hcells : cells + (1 + N') ≤ R.cells) (hslots : slots + (N' + N' * K') ≤ R.slots) (hz : ∀ c : ClassId, Jvm.Free.Multi.innerC c K' (defaultValue ty) = vp_cell c z) (hdg : decode cc pc = .ok (.multianewarray index 2, 4))
    (kk : ∀ (q : Nat) (r : Nat → Nat) (cA : ClassId) (H1 : Heap), (∀ i j : Nat, i < N' → j < N' → r i = r j → i = j) → (∀ i : Nat, i < N' → r i ∉ L) → va_K D cl (tys ++ [(cA, .array ty)]) s →
      va_P D cl ((X ++ [(q, .inl (cA, N', .inr (.inr (.inr (.inr (fun i => if i < N' then some (r i) else none))))))]) ++ va_pl (L ++ (List.range N').map r) (vr_up f ((List.range N').map r) (.inl (cy, z)))) H1 → va_D A ((X ++ [(q, .inl (cA, N', .inr (.inr (.inr (.inr (fun i => if i < N' then some (r i) else none))))))]) ++ va_pl (L ++ (List.range N').map r) (vr_up f ((List.range N').map r) (.inl (cy, z)))) → va_S A H0 H1 locs →
      W p l e R s m args below meth c H1 locs (cells + 1 + N') (slots + N' + N' * K') Q (F0 m (pc + 4) ls (.ref q :: rest))) : W p l e R s m args below meth c H locs cells slots Q (F0 m pc ls (.int k :: .int n :: rest)) := by
  subst hN
  subst hM
  intro T hT Xs
  obtain ⟨vm₁, cA, comp, -, fA, fC, hO, -, X', step⟩ := Xs.multianewarray2F hexec hown hclink (va_AOA.use hover) harr (g := F0 m pc ls (.int k :: .int n :: rest)) rfl (by rw [hb]; exact hdg) rfl hn hk hb1 hb2 hb3 hdf hdd hcells hslots
  have ec : some cy = some comp := hcy.symm.trans fC
  cases ec
  generalize hF : Jvm.Free.Multi.fill (T.setVm vm₁) cA cy n.toNatClampNeg k.toNatClampNeg (defaultValue ty) n.toNatClampNeg = F at X' step
  have hTh : (T.setVm vm₁).heap = H := hT
  obtain ⟨f1, f2, -, -⟩ := Jvm.Free.Multi.fill_facts (T.setVm vm₁) cA cy n.toNatClampNeg k.toNatClampNeg (defaultValue ty) n.toNatClampNeg
  rw [hF, hTh] at f1 f2
  have hold : ∀ x : Nat, x < H.size → F.heap[x]? = H[x]? := fun x hx => by
    have := Jvm.Free.Multi.fill_old (T.setVm vm₁) cA cy n.toNatClampNeg k.toNatClampNeg (defaultValue ty) (a := x) (by rw [hTh]; exact hx) n.toNatClampNeg
    rw [hF, hTh] at this
    exact this
  have hrow : ∀ j : Nat, j < n.toNatClampNeg → F.heap[H.size + 1 + j]? = some (vp_cell cy z) := fun j hj => by
    have := Jvm.Free.Multi.fill_inner (T.setVm vm₁) cA cy n.toNatClampNeg k.toNatClampNeg (defaultValue ty) n.toNatClampNeg j hj
    rw [hF, hTh, hz] at this
    exact this
  have hout : Jvm.Free.Multi.outerC cA n.toNatClampNeg H.size n.toNatClampNeg = vp_cell cA (n.toNatClampNeg, .inr (.inr (.inr (.inr (fun i => if i < n.toNatClampNeg then some (H.size + 1 + i) else none))))) := by
    rw [vp_cell_q]
    exact vr_outer cA n.toNatClampNeg H.size n.toNatClampNeg
  rw [hout] at f2
  have hlt : ∀ a, a ∈ L → a < H.size := fun a ha => by
    obtain ⟨k9, hk9⟩ := va_pl_get (X := X) (f := f) ha
    exact (hP k9 _ hk9).lt
  have hnl : ∀ i : Nat, i < n.toNatClampNeg → H.size + 1 + i ∉ L := fun i _ h => by
    have := hlt _ h
    omega
  have hnm : ∀ a, a ∈ (List.range n.toNatClampNeg).map (fun i => H.size + 1 + i) → a ∉ L := fun a ha h => by
    obtain ⟨i, -, rfl⟩ := List.mem_map.mp ha
    have := hlt _ h
    omega
  have hP0 : va_P D cl (X ++ va_pl L f) F.heap := hP.kept (fun k9 x hx => hold x.1 ((hP k9 x hx).lt))
  have hP1 : va_P D cl ((X ++ va_pl L f) ++ [(H.size, .inl (cA, n.toNatClampNeg, .inr (.inr (.inr (.inr (fun i => if i < n.toNatClampNeg then some (H.size + 1 + i) else none))))))]) F.heap := hP0.app (fun k9 x hx => by
    have h0 : k9 < 1 := (List.getElem?_eq_some_iff.mp hx).1
    rw [show k9 = 0 by omega] at hx
    cases hx
    exact f2)
  have hP2 : va_P D cl (((X ++ va_pl L f) ++ [(H.size, .inl (cA, n.toNatClampNeg, .inr (.inr (.inr (.inr (fun i => if i < n.toNatClampNeg then some (H.size + 1 + i) else none))))))]) ++ ((List.range n.toNatClampNeg).map (fun i => H.size + 1 + i)).map (fun a => (a, .inl (cy, z)))) F.heap := hP1.app (fun k9 x hx => by
    obtain ⟨a, ha, rfl⟩ := List.mem_map.mp (List.mem_of_getElem? hx)
    obtain ⟨i, hi, rfl⟩ := List.mem_map.mp ha
    exact hrow i (List.mem_range.mp hi))
  have hD2 : va_D A (((X ++ va_pl L f) ++ [(H.size, .inl (cA, n.toNatClampNeg, .inr (.inr (.inr (.inr (fun i => if i < n.toNatClampNeg then some (H.size + 1 + i) else none))))))]) ++ ((List.range n.toNatClampNeg).map (fun i => H.size + 1 + i)).map (fun a => (a, .inl (cy, z)))) := by
    have hD1 := hD.push (e := .inl (cA, n.toNatClampNeg, .inr (.inr (.inr (.inr (fun i => if i < n.toNatClampNeg then some (H.size + 1 + i) else none)))))) hP rfl (hA _ hS.1)
    generalize hW1 : (X ++ va_pl L f) ++ [(H.size, .inl (cA, n.toNatClampNeg, .inr (.inr (.inr (.inr (fun i => if i < n.toNatClampNeg then some (H.size + 1 + i) else none))))))] = W1 at hD1 hP1 ⊢
    have hle : ∀ (k9 : Nat) (x : Nat × va_E), W1[k9]? = some x → x.1 ≤ H.size := fun k9 x hx => by
      rw [← hW1] at hx
      by_cases hl : k9 < (X ++ va_pl L f).length
      · rw [List.getElem?_append_left hl] at hx
        exact Nat.le_of_lt ((hP k9 x hx).lt)
      · rw [List.getElem?_append_right (by omega)] at hx
        have h0 : k9 - (X ++ va_pl L f).length < 1 := (List.getElem?_eq_some_iff.mp hx).1
        rw [show k9 - (X ++ va_pl L f).length = 0 by omega] at hx
        cases hx
        exact Nat.le_refl _
    have hr : ∀ (k9 : Nat) (x : Nat × va_E), (((List.range n.toNatClampNeg).map (fun i => H.size + 1 + i)).map (fun a => ((a, .inl (cy, z)) : Nat × va_E)))[k9]? = some x → x.1 = H.size + 1 + k9 := fun k9 x hx => by
      rw [List.getElem?_map, List.getElem?_map] at hx
      by_cases h9 : k9 < n.toNatClampNeg
      · rw [List.getElem?_range h9] at hx
        cases hx
        rfl
      · have hn0 : (List.range n.toNatClampNeg)[k9]? = none := List.getElem?_eq_none (by rw [List.length_range]; omega)
        rw [hn0] at hx
        cases hx
    refine ⟨fun i j x y hi hj hxy => ?_, fun k9 x hx => ?_⟩
    · by_cases h1 : i < W1.length <;> by_cases h2 : j < W1.length
      · rw [List.getElem?_append_left h1] at hi
        rw [List.getElem?_append_left h2] at hj
        exact hD1.1 i j x y hi hj hxy
      · rw [List.getElem?_append_left h1] at hi
        rw [List.getElem?_append_right (by omega)] at hj
        have := hle _ _ hi
        have := hr _ _ hj
        omega
      · rw [List.getElem?_append_right (by omega)] at hi
        rw [List.getElem?_append_left h2] at hj
        have := hle _ _ hj
        have := hr _ _ hi
        omega
      · rw [List.getElem?_append_right (by omega)] at hi hj
        have := hr _ _ hi
        have := hr _ _ hj
        omega
    · by_cases h1 : k9 < W1.length
      · rw [List.getElem?_append_left h1] at hx
        exact hD1.2 k9 x hx
      · rw [List.getElem?_append_right (by omega)] at hx
        have := hr _ _ hx
        exact hA _ (by have := hS.1; omega)
  have hAr : ArrOfT s cA (.array ty) := fun N9 z9 => by
    obtain ⟨-, k9, hk9, cm9, hkk9⟩ := (hO 0 0 0).1
    exact ⟨(fun q hq => by cases hq), k9, hk9, cm9, hkk9⟩
  have hK2 : va_K D cl (tys ++ [(cA, .array ty)]) s := ⟨hK.1, fun k9 x hx => by
    by_cases hl : k9 < tys.length
    · rw [List.getElem?_append_left hl] at hx
      exact hK.2 k9 x hx
    · rw [List.getElem?_append_right (by omega)] at hx
      have h0 : k9 - tys.length < 1 := (List.getElem?_eq_some_iff.mp hx).1
      rw [show k9 - tys.length = 0 by omega] at hx
      cases hx
      exact ⟨hAr, fA⟩⟩
  obtain ⟨t, a1, b1⟩ := kk H.size (fun i => H.size + 1 + i) cA F.heap (fun i j _ _ h => by have h9 : H.size + 1 + i = H.size + 1 + j := h; omega) hnl hK2 (by rw [← vr_rows hnm]; exact vr_lay hP2) (by rw [← vr_rows hnm]; exact vr_layD hD2) ⟨by rw [f1]; have := hS.1; omega, fun x h1 h2 => (hold x (Nat.lt_of_lt_of_le h1 hS.1)).trans (hS.2.1 x h1 h2), hS.2.2⟩ F rfl X'
  refine ⟨t, step t ?_, b1⟩
  have e : T.heap.size = H.size := by rw [hT]
  rw [e]
  exact a1
end VGM
/-! ===== END ===== -/

/-! ===== BEGIN printed: names, fields, word lists, decode rows ===== -/
def RX0 : String := "VowDoves$Book"
def TX0 : u_T := fun k => match k with
  | 0 => ("VowDoves$Book", "letTo", "[I", true)
  | 1 => ("VowDoves$Book", "birds", "[I", true)
  | 2 => ("VowDoves$Book", "eggs", "[I", true)
  | 3 => ("VowDoves$Book", "broken", "[I", true)
  | 4 => ("VowDoves$Book", "seenKeepers", "[I", true)
  | 5 => ("VowDoves$Book", "seenHards", "[I", true)
  | 6 => ("VowDoves$Book", "seenKept", "[Z", true)
  | 7 => ("VowDoves$Book", "seen", "I", false)
  | _ => ("VowDoves$Book", "years", "I", false)
def tyX0 : Nat → FieldType := fun k => match k with
  | 0 => .array .int
  | 1 => .array .int
  | 2 => .array .int
  | 3 => .array .int
  | 4 => .array .int
  | 5 => .array .int
  | 6 => .array .boolean
  | 7 => .int
  | _ => .int
abbrev wsX00 : List Cond := u_ws RX0 TX0 9
theorem nmX0 : ∀ a, a < 9 → ∀ b, b < 9 → a ≠ b → (TX0 a).2.1 ≠ (TX0 b).2.1 := by decide +kernel
theorem tyX0_ok : ∀ k, k < 9 → parseFieldDescriptor (TX0 k).2.2.1 = some (tyX0 k) := by decide +kernel
abbrev cX0_init : ByteArray := prog_2_method_1_code
def yX0_init : MethodName := ⟨RX0, "<init>", "()V"⟩
abbrev cX0_clear : ByteArray := prog_2_method_2_code
def yX0_clear : MethodName := ⟨RX0, "clear", "()V"⟩
abbrev cX0_copyFrom : ByteArray := prog_2_method_3_code
def yX0_copyFrom : MethodName := ⟨RX0, "copyFrom", "(LVowDoves$Book;)V"⟩
abbrev cX0_empty : ByteArray := prog_2_method_4_code
def yX0_empty : MethodName := ⟨RX0, "empty", "(II)V"⟩
abbrev cX0_holesOf : ByteArray := prog_2_method_5_code
def yX0_holesOf : MethodName := ⟨RX0, "holesOf", "(I)I"⟩
abbrev cX0_eggsOf : ByteArray := prog_2_method_6_code
def yX0_eggsOf : MethodName := ⟨RX0, "eggsOf", "(I)I"⟩
abbrev cX0_roomOf : ByteArray := prog_2_method_7_code
def yX0_roomOf : MethodName := ⟨RX0, "roomOf", "(I)I"⟩
abbrev cX0_holesWith : ByteArray := prog_2_method_8_code
def yX0_holesWith : MethodName := ⟨RX0, "holesWith", "(I)I"⟩
def RX1 : String := "VowDoves$Centuries"
def TX1 : u_T := fun k => match k with
  | 0 => ("VowDoves$Centuries", "eggs", "[I", true)
  | 1 => ("VowDoves$Centuries", "broken", "I", false)
  | _ => ("VowDoves$Centuries", "seed", "J", false)
def tyX1 : Nat → FieldType := fun k => match k with
  | 0 => .array .int
  | 1 => .int
  | _ => .long
abbrev wsX10 : List Cond := u_ws RX1 TX1 3
theorem nmX1 : ∀ a, a < 3 → ∀ b, b < 3 → a ≠ b → (TX1 a).2.1 ≠ (TX1 b).2.1 := by decide +kernel
theorem tyX1_ok : ∀ k, k < 3 → parseFieldDescriptor (TX1 k).2.2.1 = some (tyX1 k) := by decide +kernel
abbrev cX1_init : ByteArray := prog_3_method_1_code
def yX1_init : MethodName := ⟨RX1, "<init>", "()V"⟩
abbrev cX1_pass : ByteArray := prog_3_method_2_code
def yX1_pass : MethodName := ⟨RX1, "pass", "(LVowDoves$Cote;LVowDoves$Book;II)V"⟩
abbrev cX1_allEggs : ByteArray := prog_3_method_3_code
def yX1_allEggs : MethodName := ⟨RX1, "allEggs", "()I"⟩
abbrev cX1_passYear : ByteArray := prog_3_method_4_code
def yX1_passYear : MethodName := ⟨RX1, "passYear", "(LVowDoves$Cote;II)V"⟩
abbrev cX1_drawOfTen : ByteArray := prog_3_method_5_code
def yX1_drawOfTen : MethodName := ⟨RX1, "drawOfTen", "()J"⟩
def RX2 : String := "VowDoves$Cote"
def TX2 : u_T := fun k => match k with
  | 0 => ("VowDoves$Cote", "kinds", "[I", true)
  | 1 => ("VowDoves$Cote", "faiths", "[I", true)
  | 2 => ("VowDoves$Cote", "hards", "[I", true)
  | 3 => ("VowDoves$Cote", "keepers", "I", false)
  | _ => ("VowDoves$Cote", "holes", "I", false)
def tyX2 : Nat → FieldType := fun k => match k with
  | 0 => .array .int
  | 1 => .array .int
  | 2 => .array .int
  | 3 => .int
  | _ => .int
abbrev wsX20 : List Cond := u_ws RX2 TX2 5
theorem nmX2 : ∀ a, a < 5 → ∀ b, b < 5 → a ≠ b → (TX2 a).2.1 ≠ (TX2 b).2.1 := by decide +kernel
theorem tyX2_ok : ∀ k, k < 5 → parseFieldDescriptor (TX2 k).2.2.1 = some (tyX2 k) := by decide +kernel
abbrev cX2_init : ByteArray := prog_4_method_1_code
def yX2_init : MethodName := ⟨RX2, "<init>", "()V"⟩
abbrev cX2_readFrom : ByteArray := prog_4_method_2_code
def yX2_readFrom : MethodName := ⟨RX2, "readFrom", "(LVowDoves$Page;)V"⟩
abbrev cX2_stands : ByteArray := prog_4_method_3_code
def yX2_stands : MethodName := ⟨RX2, "stands", "()Z"⟩
abbrev cX2_hasKeeper : ByteArray := prog_4_method_4_code
def yX2_hasKeeper : MethodName := ⟨RX2, "hasKeeper", "(I)Z"⟩
abbrev cX2_hasHole : ByteArray := prog_4_method_5_code
def yX2_hasHole : MethodName := ⟨RX2, "hasHole", "(I)Z"⟩
abbrev cX2_yearsKept : ByteArray := prog_4_method_6_code
def yX2_yearsKept : MethodName := ⟨RX2, "yearsKept", "(II)I"⟩
abbrev cX2_eggsOfAYear : ByteArray := prog_4_method_7_code
def yX2_eggsOfAYear : MethodName := ⟨RX2, "eggsOfAYear", "(I)I"⟩
def RX3 : String := "VowDoves$Matching"
def TX3 : u_T := fun k => match k with
  | 0 => ("VowDoves$Matching", "worth", "[[I", true)
  | 1 => ("VowDoves$Matching", "limit", "[I", true)
  | 2 => ("VowDoves$Matching", "room", "[I", true)
  | 3 => ("VowDoves$Matching", "tried", "[I", true)
  | 4 => ("VowDoves$Matching", "best", "[I", true)
  | _ => ("VowDoves$Matching", "most", "I", false)
def tyX3 : Nat → FieldType := fun k => match k with
  | 0 => .array (.array .int)
  | 1 => .array .int
  | 2 => .array .int
  | 3 => .array .int
  | 4 => .array .int
  | _ => .int
abbrev wsX30 : List Cond := u_ws RX3 TX3 6
theorem nmX3 : ∀ a, a < 6 → ∀ b, b < 6 → a ≠ b → (TX3 a).2.1 ≠ (TX3 b).2.1 := by decide +kernel
theorem tyX3_ok : ∀ k, k < 6 → parseFieldDescriptor (TX3 k).2.2.1 = some (tyX3 k) := by decide +kernel
abbrev cX3_init : ByteArray := prog_5_method_1_code
def yX3_init : MethodName := ⟨RX3, "<init>", "()V"⟩
abbrev cX3_solve : ByteArray := prog_5_method_2_code
def yX3_solve : MethodName := ⟨RX3, "solve", "(LVowDoves$Cote;LVowDoves$Book;)V"⟩
abbrev cX3_weigh : ByteArray := prog_5_method_3_code
def yX3_weigh : MethodName := ⟨RX3, "weigh", "(LVowDoves$Cote;IZ)I"⟩
abbrev cX3_search : ByteArray := prog_5_method_4_code
def yX3_search : MethodName := ⟨RX3, "search", "(LVowDoves$Matching;II)V"⟩
def RX4 : String := "VowDoves$Page"
def TX4 : u_T := fun k => match k with
  | 0 => ("VowDoves$Page", "letters", "[I", true)
  | 1 => ("VowDoves$Page", "size", "I", false)
  | _ => ("VowDoves$Page", "vowsBegin", "I", false)
def tyX4 : Nat → FieldType := fun k => match k with
  | 0 => .array .int
  | 1 => .int
  | _ => .int
abbrev wsX40 : List Cond := u_ws RX4 TX4 3
theorem nmX4 : ∀ a, a < 3 → ∀ b, b < 3 → a ≠ b → (TX4 a).2.1 ≠ (TX4 b).2.1 := by decide +kernel
theorem tyX4_ok : ∀ k, k < 3 → parseFieldDescriptor (TX4 k).2.2.1 = some (tyX4 k) := by decide +kernel
abbrev cX4_init : ByteArray := prog_6_method_1_code
def yX4_init : MethodName := ⟨RX4, "<init>", "()V"⟩
abbrev cX4_scan : ByteArray := prog_6_method_2_code
def yX4_scan : MethodName := ⟨RX4, "scan", "()I"⟩
abbrev cX4_isTower : ByteArray := prog_6_method_3_code
def yX4_isTower : MethodName := ⟨RX4, "isTower", "()Z"⟩
abbrev cX4_fits : ByteArray := prog_6_method_4_code
def yX4_fits : MethodName := ⟨RX4, "fits", "(I)Z"⟩
abbrev cX4_endsKeeper : ByteArray := prog_6_method_5_code
def yX4_endsKeeper : MethodName := ⟨RX4, "endsKeeper", "(II)Z"⟩
abbrev cX4_isDigit : ByteArray := prog_6_method_6_code
def yX4_isDigit : MethodName := ⟨RX4, "isDigit", "(I)Z"⟩
def RX5 : String := "VowDoves"
def TX5 : u_T := fun k => match k with
  | 0 => ("VowDoves", "page", "LVowDoves$Page;", true)
  | 1 => ("VowDoves", "cote", "LVowDoves$Cote;", true)
  | 2 => ("VowDoves", "book", "LVowDoves$Book;", true)
  | 3 => ("VowDoves", "keptBook", "LVowDoves$Book;", true)
  | 4 => ("VowDoves", "matching", "LVowDoves$Matching;", true)
  | 5 => ("VowDoves", "run", "LVowDoves$Centuries;", true)
  | 6 => ("VowDoves", "isImageKept", "Z", false)
  | _ => ("VowDoves", "towersRead", "I", false)
def tyX5 : Nat → FieldType := fun k => match k with
  | 0 => .object "VowDoves$Page"
  | 1 => .object "VowDoves$Cote"
  | 2 => .object "VowDoves$Book"
  | 3 => .object "VowDoves$Book"
  | 4 => .object "VowDoves$Matching"
  | 5 => .object "VowDoves$Centuries"
  | 6 => .boolean
  | _ => .int
abbrev wsX50 : List Cond := u_ws RX5 TX5 8
theorem nmX5 : ∀ a, a < 8 → ∀ b, b < 8 → a ≠ b → (TX5 a).2.1 ≠ (TX5 b).2.1 := by decide +kernel
theorem tyX5_ok : ∀ k, k < 8 → parseFieldDescriptor (TX5 k).2.2.1 = some (tyX5 k) := by decide +kernel
abbrev cX5_init : ByteArray := prog_1_method_1_code
def yX5_init : MethodName := ⟨RX5, "<init>", "()V"⟩
abbrev cX5_letter : ByteArray := prog_1_method_2_code
def yX5_letter : MethodName := ⟨RX5, "letter", "(I)I"⟩
abbrev cX5_blank : ByteArray := prog_1_method_3_code
def yX5_blank : MethodName := ⟨RX5, "blank", "()I"⟩
abbrev cX5_fault : ByteArray := prog_1_method_4_code
def yX5_fault : MethodName := ⟨RX5, "fault", "()I"⟩
abbrev cX5_tower : ByteArray := prog_1_method_5_code
def yX5_tower : MethodName := ⟨RX5, "tower", "()I"⟩
abbrev cX5_keeper : ByteArray := prog_1_method_6_code
def yX5_keeper : MethodName := ⟨RX5, "keeper", "(II)I"⟩
abbrev cX5_as : ByteArray := prog_1_method_7_code
def yX5_as : MethodName := ⟨RX5, "as", "(II)I"⟩
abbrev cX5_keeps : ByteArray := prog_1_method_8_code
def yX5_keeps : MethodName := ⟨RX5, "keeps", "(II)I"⟩
abbrev cX5_hole : ByteArray := prog_1_method_9_code
def yX5_hole : MethodName := ⟨RX5, "hole", "(II)I"⟩
abbrev cX5_let : ByteArray := prog_1_method_10_code
def yX5_let : MethodName := ⟨RX5, "let", "(II)I"⟩
abbrev cX5_leave : ByteArray := prog_1_method_11_code
def yX5_leave : MethodName := ⟨RX5, "leave", "(I)I"⟩
abbrev cX5_year : ByteArray := prog_1_method_12_code
def yX5_year : MethodName := ⟨RX5, "year", "(I)I"⟩
abbrev cX5_forgive : ByteArray := prog_1_method_13_code
def yX5_forgive : MethodName := ⟨RX5, "forgive", "()I"⟩
abbrev cX5_odds : ByteArray := prog_1_method_14_code
def yX5_odds : MethodName := ⟨RX5, "odds", "(II)J"⟩
abbrev cX5_match : ByteArray := prog_1_method_15_code
def yX5_match : MethodName := ⟨RX5, "match", "(I)I"⟩
abbrev cX5_see : ByteArray := prog_1_method_16_code
def yX5_see : MethodName := ⟨RX5, "see", "(IIZ)I"⟩
abbrev cX5_forget : ByteArray := prog_1_method_17_code
def yX5_forget : MethodName := ⟨RX5, "forget", "()I"⟩
abbrev cX5_centuries : ByteArray := prog_1_method_18_code
def yX5_centuries : MethodName := ⟨RX5, "centuries", "(III)I"⟩
abbrev cX5_image : ByteArray := prog_1_method_19_code
def yX5_image : MethodName := ⟨RX5, "image", "()I"⟩
abbrev cX5_restore : ByteArray := prog_1_method_20_code
def yX5_restore : MethodName := ⟨RX5, "restore", "()I"⟩
abbrev cX5_count : ByteArray := prog_1_method_21_code
def yX5_count : MethodName := ⟨RX5, "count", "(I)I"⟩
abbrev cX5_digest : ByteArray := prog_1_method_22_code
def yX5_digest : MethodName := ⟨RX5, "digest", "()J"⟩
abbrev cX5_digestKeeper : ByteArray := prog_1_method_23_code
def yX5_digestKeeper : MethodName := ⟨RX5, "digestKeeper", "(JI)J"⟩
abbrev cX5_digestWhatWouldBe : ByteArray := prog_1_method_24_code
def yX5_digestWhatWouldBe : MethodName := ⟨RX5, "digestWhatWouldBe", "(J)J"⟩
abbrev cX5_digestNumber : ByteArray := prog_1_method_25_code
def yX5_digestNumber : MethodName := ⟨RX5, "digestNumber", "(JJ)J"⟩
abbrev cX5_possibleFaiths : ByteArray := prog_1_method_26_code
def yX5_possibleFaiths : MethodName := ⟨RX5, "possibleFaiths", "(I)I"⟩
abbrev cX5_likelyFaith : ByteArray := prog_1_method_27_code
def yX5_likelyFaith : MethodName := ⟨RX5, "likelyFaith", "(I)I"⟩
abbrev cX5_likelihood : ByteArray := prog_1_method_28_code
def yX5_likelihood : MethodName := ⟨RX5, "likelihood", "(II)J"⟩
abbrev cX5_isOfKind : ByteArray := prog_1_method_29_code
def yX5_isOfKind : MethodName := ⟨RX5, "isOfKind", "(II)Z"⟩
abbrev cX5_yearsKeptBy : ByteArray := prog_1_method_30_code
def yX5_yearsKeptBy : MethodName := ⟨RX5, "yearsKeptBy", "(III)I"⟩
abbrev cX5_sum : ByteArray := prog_1_method_31_code
def yX5_sum : MethodName := ⟨RX5, "sum", "([I)I"⟩
abbrev cX5_greatestDivisor : ByteArray := prog_1_method_32_code
def yX5_greatestDivisor : MethodName := ⟨RX5, "greatestDivisor", "(JJ)J"⟩
def RX6 : String := "VowDovesModel"
def TX6 : u_T := fun k => match k with
  | 0 => ("VowDovesModel", "page", "[I", true)
  | 1 => ("VowDovesModel", "pageMany", "I", false)
  | 2 => ("VowDovesModel", "endAt", "I", false)
  | 3 => ("VowDovesModel", "keepers", "I", false)
  | 4 => ("VowDovesModel", "holes", "I", false)
  | 5 => ("VowDovesModel", "years", "I", false)
  | 6 => ("VowDovesModel", "towersRead", "I", false)
  | 7 => ("VowDovesModel", "rows", "[I", true)
  | 8 => ("VowDovesModel", "nests", "[I", true)
  | 9 => ("VowDovesModel", "row", "[I", true)
  | 10 => ("VowDovesModel", "bestRow", "[I", true)
  | 11 => ("VowDovesModel", "seenMany", "I", false)
  | 12 => ("VowDovesModel", "sights", "[I", true)
  | 13 => ("VowDovesModel", "seedNow", "I", false)
  | 14 => ("VowDovesModel", "saved", "[I", true)
  | 15 => ("VowDovesModel", "keptTower", "I", false)
  | 16 => ("VowDovesModel", "keptYears", "I", false)
  | 17 => ("VowDovesModel", "keptSeen", "I", false)
  | 18 => ("VowDovesModel", "keptRows", "[I", true)
  | 19 => ("VowDovesModel", "keptNests", "[I", true)
  | 20 => ("VowDovesModel", "keptSights", "[I", true)
  | _ => ("VowDovesModel", "hash", "J", false)
def tyX6 : Nat → FieldType := fun k => match k with
  | 0 => .array .int
  | 1 => .int
  | 2 => .int
  | 3 => .int
  | 4 => .int
  | 5 => .int
  | 6 => .int
  | 7 => .array .int
  | 8 => .array .int
  | 9 => .array .int
  | 10 => .array .int
  | 11 => .int
  | 12 => .array .int
  | 13 => .int
  | 14 => .array .int
  | 15 => .int
  | 16 => .int
  | 17 => .int
  | 18 => .array .int
  | 19 => .array .int
  | 20 => .array .int
  | _ => .long
abbrev wsX60 : List Cond := u_ws RX6 TX6 22
theorem nmX6 : ∀ a, a < 22 → ∀ b, b < 22 → a ≠ b → (TX6 a).2.1 ≠ (TX6 b).2.1 := by decide +kernel
theorem tyX6_ok : ∀ k, k < 22 → parseFieldDescriptor (TX6 k).2.2.1 = some (tyX6 k) := by decide +kernel
abbrev cX6_init : ByteArray := prog_8_method_1_code
def yX6_init : MethodName := ⟨RX6, "<init>", "()V"⟩
abbrev cX6_in : ByteArray := prog_8_method_2_code
def yX6_in : MethodName := ⟨RX6, "in", "(JJJ)Z"⟩
abbrev cX6_copy : ByteArray := prog_8_method_3_code
def yX6_copy : MethodName := ⟨RX6, "copy", "([I[I)V"⟩
abbrev cX6_common : ByteArray := prog_8_method_4_code
def yX6_common : MethodName := ⟨RX6, "common", "(JJ)J"⟩
abbrev cX6_letter : ByteArray := prog_8_method_5_code
def yX6_letter : MethodName := ⟨RX6, "letter", "(I)I"⟩
abbrev cX6_blank : ByteArray := prog_8_method_6_code
def yX6_blank : MethodName := ⟨RX6, "blank", "()I"⟩
abbrev cX6_kindBy : ByteArray := prog_8_method_7_code
def yX6_kindBy : MethodName := ⟨RX6, "kindBy", "(I)I"⟩
abbrev cX6_isGood : ByteArray := prog_8_method_8_code
def yX6_isGood : MethodName := ⟨RX6, "isGood", "(I)Z"⟩
abbrev cX6_faultOf : ByteArray := prog_8_method_9_code
def yX6_faultOf : MethodName := ⟨RX6, "faultOf", "()I"⟩
abbrev cX6_fault : ByteArray := prog_8_method_10_code
def yX6_fault : MethodName := ⟨RX6, "fault", "()I"⟩
abbrev cX6_tower : ByteArray := prog_8_method_11_code
def yX6_tower : MethodName := ⟨RX6, "tower", "()I"⟩
abbrev cX6_empty : ByteArray := prog_8_method_12_code
def yX6_empty : MethodName := ⟨RX6, "empty", "(I)V"⟩
abbrev cX6_lacks : ByteArray := prog_8_method_13_code
def yX6_lacks : MethodName := ⟨RX6, "lacks", "()Z"⟩
abbrev cX6_isKeeper : ByteArray := prog_8_method_14_code
def yX6_isKeeper : MethodName := ⟨RX6, "isKeeper", "(I)Z"⟩
abbrev cX6_isHole : ByteArray := prog_8_method_15_code
def yX6_isHole : MethodName := ⟨RX6, "isHole", "(I)Z"⟩
abbrev cX6_tenthsBy : ByteArray := prog_8_method_16_code
def yX6_tenthsBy : MethodName := ⟨RX6, "tenthsBy", "(III)I"⟩
abbrev cX6_tenthsOf : ByteArray := prog_8_method_17_code
def yX6_tenthsOf : MethodName := ⟨RX6, "tenthsOf", "(II)I"⟩
abbrev cX6_setOf : ByteArray := prog_8_method_18_code
def yX6_setOf : MethodName := ⟨RX6, "setOf", "(I)I"⟩
abbrev cX6_ones : ByteArray := prog_8_method_19_code
def yX6_ones : MethodName := ⟨RX6, "ones", "(I)I"⟩
abbrev cX6_eggsIn : ByteArray := prog_8_method_20_code
def yX6_eggsIn : MethodName := ⟨RX6, "eggsIn", "(I)I"⟩
abbrev cX6_tellKeeper : ByteArray := prog_8_method_21_code
def yX6_tellKeeper : MethodName := ⟨RX6, "tellKeeper", "(II)I"⟩
abbrev cX6_keeper : ByteArray := prog_8_method_22_code
def yX6_keeper : MethodName := ⟨RX6, "keeper", "(II)I"⟩
abbrev cX6_as : ByteArray := prog_8_method_23_code
def yX6_as : MethodName := ⟨RX6, "as", "(II)I"⟩
abbrev cX6_keeps : ByteArray := prog_8_method_24_code
def yX6_keeps : MethodName := ⟨RX6, "keeps", "(II)I"⟩
abbrev cX6_tenthsIn : ByteArray := prog_8_method_25_code
def yX6_tenthsIn : MethodName := ⟨RX6, "tenthsIn", "(I)I"⟩
abbrev cX6_tellHole : ByteArray := prog_8_method_26_code
def yX6_tellHole : MethodName := ⟨RX6, "tellHole", "(II)I"⟩
abbrev cX6_hole : ByteArray := prog_8_method_27_code
def yX6_hole : MethodName := ⟨RX6, "hole", "(II)I"⟩
abbrev cX6_let : ByteArray := prog_8_method_28_code
def yX6_let : MethodName := ⟨RX6, "let", "(II)I"⟩
abbrev cX6_leave : ByteArray := prog_8_method_29_code
def yX6_leave : MethodName := ⟨RX6, "leave", "(I)I"⟩
abbrev cX6_keepVow : ByteArray := prog_8_method_30_code
def yX6_keepVow : MethodName := ⟨RX6, "keepVow", "(I)V"⟩
abbrev cX6_year : ByteArray := prog_8_method_31_code
def yX6_year : MethodName := ⟨RX6, "year", "(I)I"⟩
abbrev cX6_forgive : ByteArray := prog_8_method_32_code
def yX6_forgive : MethodName := ⟨RX6, "forgive", "()I"⟩
abbrev cX6_oddsOf : ByteArray := prog_8_method_33_code
def yX6_oddsOf : MethodName := ⟨RX6, "oddsOf", "(II)J"⟩
abbrev cX6_odds : ByteArray := prog_8_method_34_code
def yX6_odds : MethodName := ⟨RX6, "odds", "(II)J"⟩
abbrev cX6_layRow : ByteArray := prog_8_method_35_code
def yX6_layRow : MethodName := ⟨RX6, "layRow", "(I)I"⟩
abbrev cX6_matchOf : ByteArray := prog_8_method_36_code
def yX6_matchOf : MethodName := ⟨RX6, "matchOf", "(I)I"⟩
abbrev cX6_match : ByteArray := prog_8_method_37_code
def yX6_match : MethodName := ⟨RX6, "match", "(I)I"⟩
abbrev cX6_see : ByteArray := prog_8_method_38_code
def yX6_see : MethodName := ⟨RX6, "see", "(IIZ)I"⟩
abbrev cX6_forget : ByteArray := prog_8_method_39_code
def yX6_forget : MethodName := ⟨RX6, "forget", "()I"⟩
abbrev cX6_waysBy : ByteArray := prog_8_method_40_code
def yX6_waysBy : MethodName := ⟨RX6, "waysBy", "(II)J"⟩
abbrev cX6_faithsOf : ByteArray := prog_8_method_41_code
def yX6_faithsOf : MethodName := ⟨RX6, "faithsOf", "(I)I"⟩
abbrev cX6_likelyOf : ByteArray := prog_8_method_42_code
def yX6_likelyOf : MethodName := ⟨RX6, "likelyOf", "(I)I"⟩
abbrev cX6_draw : ByteArray := prog_8_method_43_code
def yX6_draw : MethodName := ⟨RX6, "draw", "(I)I"⟩
abbrev cX6_centuries : ByteArray := prog_8_method_44_code
def yX6_centuries : MethodName := ⟨RX6, "centuries", "(III)I"⟩
abbrev cX6_image : ByteArray := prog_8_method_45_code
def yX6_image : MethodName := ⟨RX6, "image", "()I"⟩
abbrev cX6_restore : ByteArray := prog_8_method_46_code
def yX6_restore : MethodName := ⟨RX6, "restore", "()I"⟩
abbrev cX6_birds : ByteArray := prog_8_method_47_code
def yX6_birds : MethodName := ⟨RX6, "birds", "(I)I"⟩
abbrev cX6_brokenAll : ByteArray := prog_8_method_48_code
def yX6_brokenAll : MethodName := ⟨RX6, "brokenAll", "()I"⟩
abbrev cX6_countOf : ByteArray := prog_8_method_49_code
def yX6_countOf : MethodName := ⟨RX6, "countOf", "(I)I"⟩
abbrev cX6_count : ByteArray := prog_8_method_50_code
def yX6_count : MethodName := ⟨RX6, "count", "(I)I"⟩
abbrev cX6_say : ByteArray := prog_8_method_51_code
def yX6_say : MethodName := ⟨RX6, "say", "(J)V"⟩
abbrev cX6_sayKeeper : ByteArray := prog_8_method_52_code
def yX6_sayKeeper : MethodName := ⟨RX6, "sayKeeper", "(I)V"⟩
abbrev cX6_digest : ByteArray := prog_8_method_53_code
def yX6_digest : MethodName := ⟨RX6, "digest", "()J"⟩
def RJx145de : String := "java/io/Serializable"
def TJx145de : u_T := fun k => match k with
  | _ => ("", "", "", false)
def tyJx145de : Nat → FieldType := fun k => match k with
  | _ => .int
abbrev wsJx145de0 : List Cond := u_ws RJx145de TJx145de 0
theorem nmJx145de : ∀ a, a < 0 → ∀ b, b < 0 → a ≠ b → (TJx145de a).2.1 ≠ (TJx145de b).2.1 := by decide +kernel
theorem tyJx145de_ok : ∀ k, k < 0 → parseFieldDescriptor (TJx145de k).2.2.1 = some (tyJx145de k) := by decide +kernel
def RJx9f9b0 : String := "java/lang/CharSequence"
def TJx9f9b0 : u_T := fun k => match k with
  | _ => ("", "", "", false)
def tyJx9f9b0 : Nat → FieldType := fun k => match k with
  | _ => .int
abbrev wsJx9f9b00 : List Cond := u_ws RJx9f9b0 TJx9f9b0 0
theorem nmJx9f9b0 : ∀ a, a < 0 → ∀ b, b < 0 → a ≠ b → (TJx9f9b0 a).2.1 ≠ (TJx9f9b0 b).2.1 := by decide +kernel
theorem tyJx9f9b0_ok : ∀ k, k < 0 → parseFieldDescriptor (TJx9f9b0 k).2.2.1 = some (tyJx9f9b0 k) := by decide +kernel
def RJ11 : String := "java/lang/Character"
def TJ11 : u_T := fun k => match k with
  | _ => ("", "", "", false)
def tyJ11 : Nat → FieldType := fun k => match k with
  | _ => .int
abbrev wsJ110 : List Cond := u_ws RJ11 TJ11 0
theorem nmJ11 : ∀ a, a < 0 → ∀ b, b < 0 → a ≠ b → (TJ11 a).2.1 ≠ (TJ11 b).2.1 := by decide +kernel
theorem tyJ11_ok : ∀ k, k < 0 → parseFieldDescriptor (TJ11 k).2.2.1 = some (tyJ11 k) := by decide +kernel
abbrev cJ11_isValidCodePoint_9a6ad : ByteArray := prog_9_method_11_code
def yJ11_isValidCodePoint_9a6ad : MethodName := ⟨RJ11, "isValidCodePoint", "(I)Z"⟩
abbrev cJ11_highSurrogate_5068e : ByteArray := prog_9_method_28_code
def yJ11_highSurrogate_5068e : MethodName := ⟨RJ11, "highSurrogate", "(I)C"⟩
abbrev cJ11_lowSurrogate_5068e : ByteArray := prog_9_method_29_code
def yJ11_lowSurrogate_5068e : MethodName := ⟨RJ11, "lowSurrogate", "(I)C"⟩
def RJxb160c : String := "java/lang/Comparable"
def TJxb160c : u_T := fun k => match k with
  | _ => ("", "", "", false)
def tyJxb160c : Nat → FieldType := fun k => match k with
  | _ => .int
abbrev wsJxb160c0 : List Cond := u_ws RJxb160c TJxb160c 0
theorem nmJxb160c : ∀ a, a < 0 → ∀ b, b < 0 → a ≠ b → (TJxb160c a).2.1 ≠ (TJxb160c b).2.1 := by decide +kernel
theorem tyJxb160c_ok : ∀ k, k < 0 → parseFieldDescriptor (TJxb160c k).2.2.1 = some (tyJxb160c k) := by decide +kernel
def RJ6 : String := "java/lang/Integer"
def TJ6 : u_T := fun k => match k with
  | _ => ("", "", "", false)
def tyJ6 : Nat → FieldType := fun k => match k with
  | _ => .int
abbrev wsJ60 : List Cond := u_ws RJ6 TJ6 0
theorem nmJ6 : ∀ a, a < 0 → ∀ b, b < 0 → a ≠ b → (TJ6 a).2.1 ≠ (TJ6 b).2.1 := by decide +kernel
theorem tyJ6_ok : ∀ k, k < 0 → parseFieldDescriptor (TJ6 k).2.2.1 = some (tyJ6 k) := by decide +kernel
abbrev cJ6_bitCount_0f7a4 : ByteArray := prog_10_method_49_code
def yJ6_bitCount_0f7a4 : MethodName := ⟨RJ6, "bitCount", "(I)I"⟩
def RJ9 : String := "java/lang/Math"
def TJ9 : u_T := fun k => match k with
  | _ => ("", "", "", false)
def tyJ9 : Nat → FieldType := fun k => match k with
  | _ => .int
abbrev wsJ90 : List Cond := u_ws RJ9 TJ9 0
theorem nmJ9 : ∀ a, a < 0 → ∀ b, b < 0 → a ≠ b → (TJ9 a).2.1 ≠ (TJ9 b).2.1 := by decide +kernel
theorem tyJ9_ok : ∀ k, k < 0 → parseFieldDescriptor (TJ9 k).2.2.1 = some (tyJ9 k) := by decide +kernel
abbrev cJ9_max_7cf53 : ByteArray := prog_11_method_65_code
def yJ9_max_7cf53 : MethodName := ⟨RJ9, "max", "(II)I"⟩
abbrev cJ9_min_7cf53 : ByteArray := prog_11_method_69_code
def yJ9_min_7cf53 : MethodName := ⟨RJ9, "min", "(II)I"⟩
def RJ0 : String := "java/lang/String"
def TJ0 : u_T := fun k => match k with
  | _ => ("", "", "", false)
def tyJ0 : Nat → FieldType := fun k => match k with
  | _ => .int
abbrev wsJ00 : List Cond := u_ws RJ0 TJ0 0
theorem nmJ0 : ∀ a, a < 0 → ∀ b, b < 0 → a ≠ b → (TJ0 a).2.1 ≠ (TJ0 b).2.1 := by decide +kernel
theorem tyJ0_ok : ∀ k, k < 0 → parseFieldDescriptor (TJ0 k).2.2.1 = some (tyJ0 k) := by decide +kernel
abbrev cJ0_length_8abf5 : ByteArray := prog_12_method_54_code
def yJ0_length_8abf5 : MethodName := ⟨RJ0, "length", "()I"⟩
abbrev cJ0_indexOf_0f7a4 : ByteArray := prog_12_method_79_code
def yJ0_indexOf_0f7a4 : MethodName := ⟨RJ0, "indexOf", "(I)I"⟩
abbrev cJ0_indexOf_7cf53 : ByteArray := prog_12_method_80_code
def yJ0_indexOf_7cf53 : MethodName := ⟨RJ0, "indexOf", "(II)I"⟩
abbrev cJ0_coder_7d493 : ByteArray := prog_12_method_152_code
def yJ0_coder_7d493 : MethodName := ⟨RJ0, "coder", "()B"⟩
abbrev cJ0_isLatin1_aae02 : ByteArray := prog_12_method_154_code
def yJ0_isLatin1_aae02 : MethodName := ⟨RJ0, "isLatin1", "()Z"⟩
abbrev cJ0_checkBoundsBeginEnd_23922 : ByteArray := prog_12_method_158_code
def yJ0_checkBoundsBeginEnd_23922 : MethodName := ⟨RJ0, "checkBoundsBeginEnd", "(III)V"⟩
def RJ1 : String := "java/lang/StringLatin1"
def TJ1 : u_T := fun k => match k with
  | _ => ("", "", "", false)
def tyJ1 : Nat → FieldType := fun k => match k with
  | _ => .int
abbrev wsJ10 : List Cond := u_ws RJ1 TJ1 0
theorem nmJ1 : ∀ a, a < 0 → ∀ b, b < 0 → a ≠ b → (TJ1 a).2.1 ≠ (TJ1 b).2.1 := by decide +kernel
theorem tyJ1_ok : ∀ k, k < 0 → parseFieldDescriptor (TJ1 k).2.2.1 = some (tyJ1 k) := by decide +kernel
abbrev cJ1_canEncode_9a6ad : ByteArray := prog_13_method_4_code
def yJ1_canEncode_9a6ad : MethodName := ⟨RJ1, "canEncode", "(I)Z"⟩
abbrev cJ1_indexOf_4cfef : ByteArray := prog_13_method_22_code
def yJ1_indexOf_4cfef : MethodName := ⟨RJ1, "indexOf", "([BIII)I"⟩
abbrev cJ1_indexOfChar_4cfef : ByteArray := prog_13_method_23_code
def yJ1_indexOfChar_4cfef : MethodName := ⟨RJ1, "indexOfChar", "([BIII)I"⟩
def RJ2 : String := "java/lang/StringUTF16"
def TJ2 : u_T := fun k => match k with
  | _ => ("", "", "", false)
def tyJ2 : Nat → FieldType := fun k => match k with
  | _ => .int
abbrev wsJ20 : List Cond := u_ws RJ2 TJ2 0
theorem nmJ2 : ∀ a, a < 0 → ∀ b, b < 0 → a ≠ b → (TJ2 a).2.1 ≠ (TJ2 b).2.1 := by decide +kernel
theorem tyJ2_ok : ∀ k, k < 0 → parseFieldDescriptor (TJ2 k).2.2.1 = some (tyJ2 k) := by decide +kernel
abbrev cJ2_getChar_3b067 : ByteArray := prog_14_method_5_code
def yJ2_getChar_3b067 : MethodName := ⟨RJ2, "getChar", "([BI)C"⟩
abbrev cJ2_length_9d52b : ByteArray := prog_14_method_6_code
def yJ2_length_9d52b : MethodName := ⟨RJ2, "length", "([B)I"⟩
abbrev cJ2_indexOf_4cfef : ByteArray := prog_14_method_40_code
def yJ2_indexOf_4cfef : MethodName := ⟨RJ2, "indexOf", "([BIII)I"⟩
abbrev cJ2_indexOfChar_4cfef : ByteArray := prog_14_method_47_code
def yJ2_indexOfChar_4cfef : MethodName := ⟨RJ2, "indexOfChar", "([BIII)I"⟩
abbrev cJ2_indexOfCharUnsafe_4cfef : ByteArray := prog_14_method_48_code
def yJ2_indexOfCharUnsafe_4cfef : MethodName := ⟨RJ2, "indexOfCharUnsafe", "([BIII)I"⟩
abbrev cJ2_indexOfSupplementary_4cfef : ByteArray := prog_14_method_49_code
def yJ2_indexOfSupplementary_4cfef : MethodName := ⟨RJ2, "indexOfSupplementary", "([BIII)I"⟩
abbrev cJ2_checkBoundsBeginEnd_d044e : ByteArray := prog_14_method_93_code
def yJ2_checkBoundsBeginEnd_d044e : MethodName := ⟨RJ2, "checkBoundsBeginEnd", "(II[B)V"⟩
def RJ10 : String := "java/lang/System"
def TJ10 : u_T := fun k => match k with
  | _ => ("", "", "", false)
def tyJ10 : Nat → FieldType := fun k => match k with
  | _ => .int
abbrev wsJ100 : List Cond := u_ws RJ10 TJ10 0
theorem nmJ10 : ∀ a, a < 0 → ∀ b, b < 0 → a ≠ b → (TJ10 a).2.1 ≠ (TJ10 b).2.1 := by decide +kernel
theorem tyJ10_ok : ∀ k, k < 0 → parseFieldDescriptor (TJ10 k).2.2.1 = some (tyJ10 k) := by decide +kernel
def RJxfd54e : String := "java/lang/constant/Constable"
def TJxfd54e : u_T := fun k => match k with
  | _ => ("", "", "", false)
def tyJxfd54e : Nat → FieldType := fun k => match k with
  | _ => .int
abbrev wsJxfd54e0 : List Cond := u_ws RJxfd54e TJxfd54e 0
theorem nmJxfd54e : ∀ a, a < 0 → ∀ b, b < 0 → a ≠ b → (TJxfd54e a).2.1 ≠ (TJxfd54e b).2.1 := by decide +kernel
theorem tyJxfd54e_ok : ∀ k, k < 0 → parseFieldDescriptor (TJxfd54e k).2.2.1 = some (tyJxfd54e k) := by decide +kernel
def RJx3cf43 : String := "java/lang/constant/ConstantDesc"
def TJx3cf43 : u_T := fun k => match k with
  | _ => ("", "", "", false)
def tyJx3cf43 : Nat → FieldType := fun k => match k with
  | _ => .int
abbrev wsJx3cf430 : List Cond := u_ws RJx3cf43 TJx3cf43 0
theorem nmJx3cf43 : ∀ a, a < 0 → ∀ b, b < 0 → a ≠ b → (TJx3cf43 a).2.1 ≠ (TJx3cf43 b).2.1 := by decide +kernel
theorem tyJx3cf43_ok : ∀ k, k < 0 → parseFieldDescriptor (TJx3cf43 k).2.2.1 = some (tyJx3cf43 k) := by decide +kernel
def RJ7 : String := "java/util/Arrays"
def TJ7 : u_T := fun k => match k with
  | _ => ("", "", "", false)
def tyJ7 : Nat → FieldType := fun k => match k with
  | _ => .int
abbrev wsJ70 : List Cond := u_ws RJ7 TJ7 0
theorem nmJ7 : ∀ a, a < 0 → ∀ b, b < 0 → a ≠ b → (TJ7 a).2.1 ≠ (TJ7 b).2.1 := by decide +kernel
theorem tyJ7_ok : ∀ k, k < 0 → parseFieldDescriptor (TJ7 k).2.2.1 = some (tyJ7 k) := by decide +kernel
abbrev cJ7_fill_53178 : ByteArray := prog_16_method_103_code
def yJ7_fill_53178 : MethodName := ⟨RJ7, "fill", "([II)V"⟩
def RJ3 : String := "jdk/internal/util/Preconditions"
def TJ3 : u_T := fun k => match k with
  | _ => ("", "", "", false)
def tyJ3 : Nat → FieldType := fun k => match k with
  | _ => .int
abbrev wsJ30 : List Cond := u_ws RJ3 TJ3 0
theorem nmJ3 : ∀ a, a < 0 → ∀ b, b < 0 → a ≠ b → (TJ3 a).2.1 ≠ (TJ3 b).2.1 := by decide +kernel
theorem tyJ3_ok : ∀ k, k < 0 → parseFieldDescriptor (TJ3 k).2.2.1 = some (tyJ3 k) := by decide +kernel
abbrev cJ3_checkFromToIndex_8c36e : ByteArray := prog_17_method_12_code
def yJ3_checkFromToIndex_8c36e : MethodName := ⟨RJ3, "checkFromToIndex", "(IIILjava/util/function/BiFunction;)I"⟩
def RL : String := "VowDovesLaw"
abbrev cL_law : ByteArray := code
def yL_law : MethodName := ⟨RL, "law", "([I)Z"⟩
def wsJ7_fill_53178 : List Cond := .code yJ7_fill_53178 cJ7_fill_53178 4 none :: ([])
def wsX0_init : List Cond := .code yX0_init cX0_init 1 none :: ([.methodLink RX0 3 objectInit, .instanceMethod objectInit, .code objectInit ⟨#[0xb1]⟩ 1 none, .arrayClass .int, .fieldLink RX0 9 "VowDoves$Book" "letTo" "[I", .fieldLink RX0 15 "VowDoves$Book" "birds" "[I", .fieldLink RX0 18 "VowDoves$Book" "eggs" "[I", .fieldLink RX0 21 "VowDoves$Book" "broken" "[I", .fieldLink RX0 24 "VowDoves$Book" "seenKeepers" "[I", .fieldLink RX0 27 "VowDoves$Book" "seenHards" "[I", .arrayClass .boolean, .fieldLink RX0 30 "VowDoves$Book" "seenKept" "[Z", .methodLink RX0 34 yJ7_fill_53178, .static yJ7_fill_53178, .initialized RJ7, .code yJ7_fill_53178 cJ7_fill_53178 4 none] ++ wsX00)
def wsX0_empty : List Cond := .code yX0_empty cX0_empty 3 none :: ([.fieldLink RX0 9 "VowDoves$Book" "letTo" "[I", .fieldLink RX0 15 "VowDoves$Book" "birds" "[I", .fieldLink RX0 18 "VowDoves$Book" "eggs" "[I"] ++ wsX00)
def wsX0_clear : List Cond := .code yX0_clear cX0_clear 2 none :: ([.fieldLink RX0 21 "VowDoves$Book" "broken" "[I", .fieldLink RX0 44 "VowDoves$Book" "seen" "I", .fieldLink RX0 48 "VowDoves$Book" "years" "I", .methodLink RX0 40 yX0_empty, .instanceMethod yX0_empty, .selects RX0 yX0_empty yX0_empty, .initialized RX0, .code yX0_empty cX0_empty 3 none, .fieldLink RX0 9 "VowDoves$Book" "letTo" "[I", .fieldLink RX0 15 "VowDoves$Book" "birds" "[I", .fieldLink RX0 18 "VowDoves$Book" "eggs" "[I", .methodLink RX0 34 yJ7_fill_53178, .static yJ7_fill_53178, .initialized RJ7, .code yJ7_fill_53178 cJ7_fill_53178 4 none] ++ wsX00)
def wsX0_copyFrom : List Cond := .code yX0_copyFrom cX0_copyFrom 2 none :: ([.fieldLink RX0 9 "VowDoves$Book" "letTo" "[I", .methodLink RX0 51 arraycopyName, .native arraycopyName, .static arraycopyName, .initialized "java/lang/System", .fieldLink RX0 15 "VowDoves$Book" "birds" "[I", .fieldLink RX0 18 "VowDoves$Book" "eggs" "[I", .fieldLink RX0 21 "VowDoves$Book" "broken" "[I", .fieldLink RX0 24 "VowDoves$Book" "seenKeepers" "[I", .fieldLink RX0 27 "VowDoves$Book" "seenHards" "[I", .fieldLink RX0 30 "VowDoves$Book" "seenKept" "[Z", .fieldLink RX0 44 "VowDoves$Book" "seen" "I", .fieldLink RX0 48 "VowDoves$Book" "years" "I"] ++ wsX00)
def wsX0_holesOf : List Cond := .code yX0_holesOf cX0_holesOf 4 (some .int) :: ([.fieldLink RX0 9 "VowDoves$Book" "letTo" "[I"] ++ wsX00)
def wsX0_eggsOf : List Cond := .code yX0_eggsOf cX0_eggsOf 4 (some .int) :: ([.fieldLink RX0 9 "VowDoves$Book" "letTo" "[I", .fieldLink RX0 18 "VowDoves$Book" "eggs" "[I"] ++ wsX00)
def wsJ6_bitCount_0f7a4 : List Cond := .code yJ6_bitCount_0f7a4 cJ6_bitCount_0f7a4 1 (some .int) :: ([.constant RJ6 265 (1431655765), .constant RJ6 266 (858993459), .constant RJ6 267 (252645135)])
def wsX0_roomOf : List Cond := .code yX0_roomOf cX0_roomOf 2 (some .int) :: ([.methodLink RX0 57 yX0_holesOf, .instanceMethod yX0_holesOf, .selects RX0 yX0_holesOf yX0_holesOf, .initialized RX0, .code yX0_holesOf cX0_holesOf 4 (some .int), .fieldLink RX0 9 "VowDoves$Book" "letTo" "[I", .methodLink RX0 61 yJ6_bitCount_0f7a4, .static yJ6_bitCount_0f7a4, .initialized RJ6, .code yJ6_bitCount_0f7a4 cJ6_bitCount_0f7a4 1 (some .int), .constant RJ6 265 (1431655765), .constant RJ6 266 (858993459), .constant RJ6 267 (252645135)] ++ wsX00)
def wsX0_holesWith : List Cond := .code yX0_holesWith cX0_holesWith 7 (some .int) :: ([.fieldLink RX0 15 "VowDoves$Book" "birds" "[I"] ++ wsX00)
def wsX1_init : List Cond := .code yX1_init cX1_init 1 none :: ([.methodLink RX1 3 objectInit, .instanceMethod objectInit, .code objectInit ⟨#[0xb1]⟩ 1 none, .arrayClass .int, .fieldLink RX1 9 "VowDoves$Centuries" "eggs" "[I"] ++ wsX10)
def wsX1_drawOfTen : List Cond := .code yX1_drawOfTen cX1_drawOfTen 1 (some .long) :: ([.constantLong RX1 66 (1103515245), .fieldLink RX1 28 "VowDoves$Centuries" "seed" "J", .constantLong RX1 68 (12345), .constantLong RX1 70 (2147483647), .constantLong RX1 72 (65536), .constantLong RX1 74 (10)] ++ wsX10)
def wsX2_hasKeeper : List Cond := .code yX2_hasKeeper cX2_hasKeeper 2 (some .boolean) :: ([.fieldLink RX2 33 "VowDoves$Cote" "keepers" "I"] ++ wsX20)
def wsX5_isOfKind : List Cond := .code yX5_isOfKind cX5_isOfKind 2 (some .boolean) :: ([])
def wsX5_yearsKeptBy : List Cond := .code yX5_yearsKeptBy cX5_yearsKeptBy 6 (some .int) :: ([.methodLink RX5 248 Lib.Math.min.name, .static Lib.Math.min.name, .initialized "java/lang/Math", .code Lib.Math.min.name Lib.Math.min.code 2 (some .int), .methodLink RX5 253 Lib.Math.max.name, .static Lib.Math.max.name, .code Lib.Math.max.name Lib.Math.max.code 2 (some .int), .methodLink RX5 106 yX5_isOfKind, .static yX5_isOfKind, .initialized RX5, .code yX5_isOfKind cX5_isOfKind 2 (some .boolean)])
def wsX2_yearsKept : List Cond := .code yX2_yearsKept cX2_yearsKept 3 (some .int) :: ([.fieldLink RX2 9 "VowDoves$Cote" "kinds" "[I", .fieldLink RX2 15 "VowDoves$Cote" "faiths" "[I", .methodLink RX2 53 yX2_hasKeeper, .instanceMethod yX2_hasKeeper, .selects RX2 yX2_hasKeeper yX2_hasKeeper, .initialized RX2, .code yX2_hasKeeper cX2_hasKeeper 2 (some .boolean), .fieldLink RX2 33 "VowDoves$Cote" "keepers" "I", .static yX5_yearsKeptBy, .initialized RX5, .code yX5_yearsKeptBy cX5_yearsKeptBy 6 (some .int), .methodLink RX5 248 Lib.Math.min.name, .static Lib.Math.min.name, .initialized "java/lang/Math", .code Lib.Math.min.name Lib.Math.min.code 2 (some .int), .methodLink RX5 253 Lib.Math.max.name, .static Lib.Math.max.name, .code Lib.Math.max.name Lib.Math.max.code 2 (some .int), .methodLink RX5 106 yX5_isOfKind, .static yX5_isOfKind, .code yX5_isOfKind cX5_isOfKind 2 (some .boolean)] ++ wsX20)
def wsX2_eggsOfAYear : List Cond := .code yX2_eggsOfAYear cX2_eggsOfAYear 2 (some .int) :: ([.fieldLink RX2 9 "VowDoves$Cote" "kinds" "[I", .methodLink RX2 53 yX2_hasKeeper, .instanceMethod yX2_hasKeeper, .selects RX2 yX2_hasKeeper yX2_hasKeeper, .initialized RX2, .code yX2_hasKeeper cX2_hasKeeper 2 (some .boolean), .fieldLink RX2 33 "VowDoves$Cote" "keepers" "I", .static yX5_isOfKind, .initialized RX5, .code yX5_isOfKind cX5_isOfKind 2 (some .boolean)] ++ wsX20)
def wsX1_passYear_r1 : List Cond := [Cond.fieldLink RX1 55 "VowDoves$Cote" "hards" "[I", Cond.fieldLink RX1 9 "VowDoves$Centuries" "eggs" "[I", Cond.fieldLink RX1 24 "VowDoves$Centuries" "broken" "I", Cond.methodLink RX1 51 yX1_drawOfTen, Cond.instanceMethod yX1_drawOfTen, Cond.selects RX1 yX1_drawOfTen yX1_drawOfTen, Cond.initialized RX1, Cond.code yX1_drawOfTen cX1_drawOfTen 1 (some .long), Cond.constantLong RX1 66 (1103515245), Cond.fieldLink RX1 28 "VowDoves$Centuries" "seed" "J", Cond.constantLong RX1 68 (12345), Cond.constantLong RX1 70 (2147483647), Cond.constantLong RX1 72 (65536), Cond.constantLong RX1 74 (10), Cond.methodLink RX1 58 yX2_yearsKept, Cond.instanceMethod yX2_yearsKept, Cond.selects RX2 yX2_yearsKept yX2_yearsKept, Cond.initialized RX2, Cond.code yX2_yearsKept cX2_yearsKept 3 (some .int), Cond.fieldLink RX2 9 "VowDoves$Cote" "kinds" "[I", Cond.fieldLink RX2 15 "VowDoves$Cote" "faiths" "[I", Cond.methodLink RX2 53 yX2_hasKeeper, Cond.instanceMethod yX2_hasKeeper, Cond.selects RX2 yX2_hasKeeper yX2_hasKeeper]
def wsX1_passYear_r2 : List Cond := [Cond.code yX2_hasKeeper cX2_hasKeeper 2 (some .boolean), Cond.fieldLink RX2 33 "VowDoves$Cote" "keepers" "I", Cond.static yX5_yearsKeptBy, Cond.initialized RX5, Cond.code yX5_yearsKeptBy cX5_yearsKeptBy 6 (some .int), Cond.methodLink RX5 248 Lib.Math.min.name, Cond.static Lib.Math.min.name, Cond.initialized "java/lang/Math", Cond.code Lib.Math.min.name Lib.Math.min.code 2 (some .int), Cond.methodLink RX5 253 Lib.Math.max.name, Cond.static Lib.Math.max.name, Cond.code Lib.Math.max.name Lib.Math.max.code 2 (some .int), Cond.methodLink RX5 106 yX5_isOfKind, Cond.static yX5_isOfKind, Cond.code yX5_isOfKind cX5_isOfKind 2 (some .boolean), Cond.methodLink RX1 62 yX2_eggsOfAYear, Cond.instanceMethod yX2_eggsOfAYear, Cond.selects RX2 yX2_eggsOfAYear yX2_eggsOfAYear, Cond.code yX2_eggsOfAYear cX2_eggsOfAYear 2 (some .int)]
def wsX1_passYear : List Cond := .code yX1_passYear cX1_passYear 4 none :: ((wsX1_passYear_r1 ++ wsX1_passYear_r2) ++ wsX20 ++ wsX10)
def wsX1_pass_r1 : List Cond := [Cond.fieldLink RX1 15 "VowDoves$Book" "eggs" "[I", Cond.fieldLink RX1 9 "VowDoves$Centuries" "eggs" "[I", Cond.methodLink RX1 18 arraycopyName, Cond.native arraycopyName, Cond.static arraycopyName, Cond.initialized "java/lang/System", Cond.fieldLink RX1 24 "VowDoves$Centuries" "broken" "I", Cond.fieldLink RX1 28 "VowDoves$Centuries" "seed" "J", Cond.fieldLink RX1 32 "VowDoves$Cote" "holes" "I", Cond.fieldLink RX1 37 "VowDoves$Book" "birds" "[I", Cond.fieldLink RX1 40 "VowDoves$Book" "letTo" "[I", Cond.methodLink RX1 43 yX1_passYear, Cond.instanceMethod yX1_passYear, Cond.selects RX1 yX1_passYear yX1_passYear, Cond.initialized RX1, Cond.code yX1_passYear cX1_passYear 4 none, Cond.fieldLink RX1 55 "VowDoves$Cote" "hards" "[I", Cond.methodLink RX1 51 yX1_drawOfTen, Cond.instanceMethod yX1_drawOfTen, Cond.selects RX1 yX1_drawOfTen yX1_drawOfTen, Cond.code yX1_drawOfTen cX1_drawOfTen 1 (some .long), Cond.constantLong RX1 66 (1103515245), Cond.constantLong RX1 68 (12345), Cond.constantLong RX1 70 (2147483647)]
def wsX1_pass_r2 : List Cond := [Cond.constantLong RX1 72 (65536), Cond.constantLong RX1 74 (10), Cond.methodLink RX1 58 yX2_yearsKept, Cond.instanceMethod yX2_yearsKept, Cond.selects RX2 yX2_yearsKept yX2_yearsKept, Cond.initialized RX2, Cond.code yX2_yearsKept cX2_yearsKept 3 (some .int), Cond.fieldLink RX2 9 "VowDoves$Cote" "kinds" "[I", Cond.fieldLink RX2 15 "VowDoves$Cote" "faiths" "[I", Cond.methodLink RX2 53 yX2_hasKeeper, Cond.instanceMethod yX2_hasKeeper, Cond.selects RX2 yX2_hasKeeper yX2_hasKeeper, Cond.code yX2_hasKeeper cX2_hasKeeper 2 (some .boolean), Cond.fieldLink RX2 33 "VowDoves$Cote" "keepers" "I", Cond.static yX5_yearsKeptBy, Cond.initialized RX5, Cond.code yX5_yearsKeptBy cX5_yearsKeptBy 6 (some .int), Cond.methodLink RX5 248 Lib.Math.min.name, Cond.static Lib.Math.min.name, Cond.initialized "java/lang/Math", Cond.code Lib.Math.min.name Lib.Math.min.code 2 (some .int), Cond.methodLink RX5 253 Lib.Math.max.name, Cond.static Lib.Math.max.name, Cond.code Lib.Math.max.name Lib.Math.max.code 2 (some .int)]
def wsX1_pass_r3 : List Cond := [Cond.methodLink RX5 106 yX5_isOfKind, Cond.static yX5_isOfKind, Cond.code yX5_isOfKind cX5_isOfKind 2 (some .boolean), Cond.methodLink RX1 62 yX2_eggsOfAYear, Cond.instanceMethod yX2_eggsOfAYear, Cond.selects RX2 yX2_eggsOfAYear yX2_eggsOfAYear, Cond.code yX2_eggsOfAYear cX2_eggsOfAYear 2 (some .int)]
def wsX1_pass : List Cond := .code yX1_pass cX1_pass 7 none :: ((wsX1_pass_r1 ++ (wsX1_pass_r2 ++ wsX1_pass_r3)) ++ wsX00 ++ wsX10 ++ wsX20)
def wsX5_sum : List Cond := .code yX5_sum cX5_sum 6 (some .int) :: ([])
def wsX1_allEggs : List Cond := .code yX1_allEggs cX1_allEggs 1 (some .int) :: ([.fieldLink RX1 9 "VowDoves$Centuries" "eggs" "[I", .static yX5_sum, .initialized RX5, .code yX5_sum cX5_sum 6 (some .int)] ++ wsX10)
def wsX2_init : List Cond := .code yX2_init cX2_init 1 none :: ([.methodLink RX2 3 objectInit, .instanceMethod objectInit, .code objectInit ⟨#[0xb1]⟩ 1 none, .arrayClass .int, .fieldLink RX2 9 "VowDoves$Cote" "kinds" "[I", .fieldLink RX2 15 "VowDoves$Cote" "faiths" "[I", .fieldLink RX2 18 "VowDoves$Cote" "hards" "[I"] ++ wsX20)
def wsJ0_isLatin1_aae02 : List Cond := .code yJ0_isLatin1_aae02 cJ0_isLatin1_aae02 1 (some .boolean) :: ([.fieldLink RJ0 38 "java/lang/String" "COMPACT_STRINGS" "Z", .fieldLink RJ0 15 "java/lang/String" "coder" "B"])
def wsJ0_coder_7d493 : List Cond := .code yJ0_coder_7d493 cJ0_coder_7d493 1 (some .byte) :: ([.fieldLink RJ0 38 "java/lang/String" "COMPACT_STRINGS" "Z", .fieldLink RJ0 15 "java/lang/String" "coder" "B"])
def wsJ0_length_8abf5 : List Cond := .code yJ0_length_8abf5 cJ0_length_8abf5 1 (some .int) :: ([.fieldLink RJ0 9 "java/lang/String" "value" "[B", .methodLink RJ0 335 yJ0_coder_7d493, .instanceMethod yJ0_coder_7d493, .selects RJ0 yJ0_coder_7d493 yJ0_coder_7d493, .initialized RJ0, .code yJ0_coder_7d493 cJ0_coder_7d493 1 (some .byte), .fieldLink RJ0 38 "java/lang/String" "COMPACT_STRINGS" "Z", .fieldLink RJ0 15 "java/lang/String" "coder" "B"])
def wsJ1_canEncode_9a6ad : List Cond := .code yJ1_canEncode_9a6ad cJ1_canEncode_9a6ad 1 (some .boolean) :: ([])
def wsJ1_indexOfChar_4cfef : List Cond := .code yJ1_indexOfChar_4cfef cJ1_indexOfChar_4cfef 6 (some .int) :: ([])
def wsJ1_indexOf_4cfef : List Cond := .code yJ1_indexOf_4cfef cJ1_indexOf_4cfef 4 (some .int) :: ([.methodLink RJ1 92 Lib.Math.max.name, .static Lib.Math.max.name, .initialized "java/lang/Math", .code Lib.Math.max.name Lib.Math.max.code 2 (some .int), .methodLink RJ1 38 Lib.Math.min.name, .static Lib.Math.min.name, .code Lib.Math.min.name Lib.Math.min.code 2 (some .int), .methodLink RJ1 88 yJ1_canEncode_9a6ad, .static yJ1_canEncode_9a6ad, .initialized RJ1, .code yJ1_canEncode_9a6ad cJ1_canEncode_9a6ad 1 (some .boolean), .methodLink RJ1 95 yJ1_indexOfChar_4cfef, .static yJ1_indexOfChar_4cfef, .code yJ1_indexOfChar_4cfef cJ1_indexOfChar_4cfef 6 (some .int)])
def wsJ2_length_9d52b : List Cond := .code yJ2_length_9d52b cJ2_length_9d52b 1 (some .int) :: ([])
def wsJ3_checkFromToIndex_8c36e : List Cond := .code yJ3_checkFromToIndex_8c36e cJ3_checkFromToIndex_8c36e 4 (some .int) :: ([])
def wsJ0_checkBoundsBeginEnd_23922 : List Cond := .code yJ0_checkBoundsBeginEnd_23922 cJ0_checkBoundsBeginEnd_23922 3 none :: ([.fieldLink RJ0 1053 "jdk/internal/util/Preconditions" "SIOOBE_FORMATTER" "Ljava/util/function/BiFunction;", .methodLink RJ0 1062 yJ3_checkFromToIndex_8c36e, .static yJ3_checkFromToIndex_8c36e, .initialized RJ3, .code yJ3_checkFromToIndex_8c36e cJ3_checkFromToIndex_8c36e 4 (some .int)])
def wsJ2_checkBoundsBeginEnd_d044e : List Cond := .code yJ2_checkBoundsBeginEnd_d044e cJ2_checkBoundsBeginEnd_d044e 3 none :: ([.methodLink RJ2 48 yJ2_length_9d52b, .static yJ2_length_9d52b, .initialized RJ2, .code yJ2_length_9d52b cJ2_length_9d52b 1 (some .int), .methodLink RJ2 241 yJ0_checkBoundsBeginEnd_23922, .static yJ0_checkBoundsBeginEnd_23922, .initialized RJ0, .code yJ0_checkBoundsBeginEnd_23922 cJ0_checkBoundsBeginEnd_23922 3 none, .fieldLink RJ0 1053 "jdk/internal/util/Preconditions" "SIOOBE_FORMATTER" "Ljava/util/function/BiFunction;", .methodLink RJ0 1062 yJ3_checkFromToIndex_8c36e, .static yJ3_checkFromToIndex_8c36e, .initialized RJ3, .code yJ3_checkFromToIndex_8c36e cJ3_checkFromToIndex_8c36e 4 (some .int)])
def wsJ2_getChar_3b067 : List Cond := .code yJ2_getChar_3b067 cJ2_getChar_3b067 2 (some .char) :: ([.fieldLink RJ2 44 "java/lang/StringUTF16" "$assertionsDisabled" "Z", .fieldLink RJ2 59 "java/lang/StringUTF16" "HI_BYTE_SHIFT" "I", .fieldLink RJ2 63 "java/lang/StringUTF16" "LO_BYTE_SHIFT" "I", .methodLink RJ2 48 yJ2_length_9d52b, .static yJ2_length_9d52b, .initialized RJ2, .code yJ2_length_9d52b cJ2_length_9d52b 1 (some .int)])
def wsJ2_indexOfCharUnsafe_4cfef : List Cond := .code yJ2_indexOfCharUnsafe_4cfef cJ2_indexOfCharUnsafe_4cfef 5 (some .int) :: ([.methodLink RJ2 71 yJ2_getChar_3b067, .static yJ2_getChar_3b067, .initialized RJ2, .code yJ2_getChar_3b067 cJ2_getChar_3b067 2 (some .char), .fieldLink RJ2 44 "java/lang/StringUTF16" "$assertionsDisabled" "Z", .fieldLink RJ2 59 "java/lang/StringUTF16" "HI_BYTE_SHIFT" "I", .fieldLink RJ2 63 "java/lang/StringUTF16" "LO_BYTE_SHIFT" "I", .methodLink RJ2 48 yJ2_length_9d52b, .static yJ2_length_9d52b, .code yJ2_length_9d52b cJ2_length_9d52b 1 (some .int)])
def wsJ2_indexOfChar_4cfef_r1 : List Cond := [Cond.methodLink RJ2 96 yJ2_checkBoundsBeginEnd_d044e, Cond.static yJ2_checkBoundsBeginEnd_d044e, Cond.initialized RJ2, Cond.code yJ2_checkBoundsBeginEnd_d044e cJ2_checkBoundsBeginEnd_d044e 3 none, Cond.methodLink RJ2 48 yJ2_length_9d52b, Cond.static yJ2_length_9d52b, Cond.code yJ2_length_9d52b cJ2_length_9d52b 1 (some .int), Cond.methodLink RJ2 241 yJ0_checkBoundsBeginEnd_23922, Cond.static yJ0_checkBoundsBeginEnd_23922, Cond.initialized RJ0, Cond.code yJ0_checkBoundsBeginEnd_23922 cJ0_checkBoundsBeginEnd_23922 3 none, Cond.fieldLink RJ0 1053 "jdk/internal/util/Preconditions" "SIOOBE_FORMATTER" "Ljava/util/function/BiFunction;", Cond.methodLink RJ0 1062 yJ3_checkFromToIndex_8c36e, Cond.static yJ3_checkFromToIndex_8c36e, Cond.initialized RJ3, Cond.code yJ3_checkFromToIndex_8c36e cJ3_checkFromToIndex_8c36e 4 (some .int), Cond.methodLink RJ2 244 yJ2_indexOfCharUnsafe_4cfef, Cond.static yJ2_indexOfCharUnsafe_4cfef, Cond.code yJ2_indexOfCharUnsafe_4cfef cJ2_indexOfCharUnsafe_4cfef 5 (some .int), Cond.methodLink RJ2 71 yJ2_getChar_3b067, Cond.static yJ2_getChar_3b067, Cond.code yJ2_getChar_3b067 cJ2_getChar_3b067 2 (some .char), Cond.fieldLink RJ2 44 "java/lang/StringUTF16" "$assertionsDisabled" "Z", Cond.fieldLink RJ2 59 "java/lang/StringUTF16" "HI_BYTE_SHIFT" "I"]
def wsJ2_indexOfChar_4cfef_r2 : List Cond := [Cond.fieldLink RJ2 63 "java/lang/StringUTF16" "LO_BYTE_SHIFT" "I"]
def wsJ2_indexOfChar_4cfef : List Cond := .code yJ2_indexOfChar_4cfef cJ2_indexOfChar_4cfef 4 (some .int) :: ((wsJ2_indexOfChar_4cfef_r1 ++ wsJ2_indexOfChar_4cfef_r2))
def wsJ11_isValidCodePoint_9a6ad : List Cond := .code yJ11_isValidCodePoint_9a6ad cJ11_isValidCodePoint_9a6ad 2 (some .boolean) :: ([])
def wsJ11_highSurrogate_5068e : List Cond := .code yJ11_highSurrogate_5068e cJ11_highSurrogate_5068e 1 (some .char) :: ([.constant RJ11 110 (55232)])
def wsJ11_lowSurrogate_5068e : List Cond := .code yJ11_lowSurrogate_5068e cJ11_lowSurrogate_5068e 1 (some .char) :: ([.constant RJ11 76 (56320)])
def wsJ2_indexOfSupplementary_4cfef_r1 : List Cond := [Cond.methodLink RJ2 164 yJ11_isValidCodePoint_9a6ad, Cond.static yJ11_isValidCodePoint_9a6ad, Cond.initialized RJ11, Cond.code yJ11_isValidCodePoint_9a6ad cJ11_isValidCodePoint_9a6ad 2 (some .boolean), Cond.methodLink RJ2 157 yJ11_highSurrogate_5068e, Cond.static yJ11_highSurrogate_5068e, Cond.code yJ11_highSurrogate_5068e cJ11_highSurrogate_5068e 1 (some .char), Cond.constant RJ11 110 (55232), Cond.methodLink RJ2 161 yJ11_lowSurrogate_5068e, Cond.static yJ11_lowSurrogate_5068e, Cond.code yJ11_lowSurrogate_5068e cJ11_lowSurrogate_5068e 1 (some .char), Cond.constant RJ11 76 (56320), Cond.methodLink RJ2 96 yJ2_checkBoundsBeginEnd_d044e, Cond.static yJ2_checkBoundsBeginEnd_d044e, Cond.initialized RJ2, Cond.code yJ2_checkBoundsBeginEnd_d044e cJ2_checkBoundsBeginEnd_d044e 3 none, Cond.methodLink RJ2 48 yJ2_length_9d52b, Cond.static yJ2_length_9d52b, Cond.code yJ2_length_9d52b cJ2_length_9d52b 1 (some .int), Cond.methodLink RJ2 241 yJ0_checkBoundsBeginEnd_23922, Cond.static yJ0_checkBoundsBeginEnd_23922, Cond.initialized RJ0, Cond.code yJ0_checkBoundsBeginEnd_23922 cJ0_checkBoundsBeginEnd_23922 3 none, Cond.fieldLink RJ0 1053 "jdk/internal/util/Preconditions" "SIOOBE_FORMATTER" "Ljava/util/function/BiFunction;"]
def wsJ2_indexOfSupplementary_4cfef_r2 : List Cond := [Cond.methodLink RJ0 1062 yJ3_checkFromToIndex_8c36e, Cond.static yJ3_checkFromToIndex_8c36e, Cond.initialized RJ3, Cond.code yJ3_checkFromToIndex_8c36e cJ3_checkFromToIndex_8c36e 4 (some .int), Cond.methodLink RJ2 71 yJ2_getChar_3b067, Cond.static yJ2_getChar_3b067, Cond.code yJ2_getChar_3b067 cJ2_getChar_3b067 2 (some .char), Cond.fieldLink RJ2 44 "java/lang/StringUTF16" "$assertionsDisabled" "Z", Cond.fieldLink RJ2 59 "java/lang/StringUTF16" "HI_BYTE_SHIFT" "I", Cond.fieldLink RJ2 63 "java/lang/StringUTF16" "LO_BYTE_SHIFT" "I"]
def wsJ2_indexOfSupplementary_4cfef : List Cond := .code yJ2_indexOfSupplementary_4cfef cJ2_indexOfSupplementary_4cfef 7 (some .int) :: ((wsJ2_indexOfSupplementary_4cfef_r1 ++ wsJ2_indexOfSupplementary_4cfef_r2))
def wsJ2_indexOf_4cfef_r1 : List Cond := [Cond.methodLink RJ2 224 Lib.Math.max.name, Cond.static Lib.Math.max.name, Cond.initialized "java/lang/Math", Cond.code Lib.Math.max.name Lib.Math.max.code 2 (some .int), Cond.methodLink RJ2 183 Lib.Math.min.name, Cond.static Lib.Math.min.name, Cond.code Lib.Math.min.name Lib.Math.min.code 2 (some .int), Cond.constant RJ2 227 (65536), Cond.methodLink RJ2 228 yJ2_indexOfChar_4cfef, Cond.static yJ2_indexOfChar_4cfef, Cond.initialized RJ2, Cond.code yJ2_indexOfChar_4cfef cJ2_indexOfChar_4cfef 4 (some .int), Cond.methodLink RJ2 96 yJ2_checkBoundsBeginEnd_d044e, Cond.static yJ2_checkBoundsBeginEnd_d044e, Cond.code yJ2_checkBoundsBeginEnd_d044e cJ2_checkBoundsBeginEnd_d044e 3 none, Cond.methodLink RJ2 48 yJ2_length_9d52b, Cond.static yJ2_length_9d52b, Cond.code yJ2_length_9d52b cJ2_length_9d52b 1 (some .int), Cond.methodLink RJ2 241 yJ0_checkBoundsBeginEnd_23922, Cond.static yJ0_checkBoundsBeginEnd_23922, Cond.initialized RJ0, Cond.code yJ0_checkBoundsBeginEnd_23922 cJ0_checkBoundsBeginEnd_23922 3 none, Cond.fieldLink RJ0 1053 "jdk/internal/util/Preconditions" "SIOOBE_FORMATTER" "Ljava/util/function/BiFunction;", Cond.methodLink RJ0 1062 yJ3_checkFromToIndex_8c36e]
def wsJ2_indexOf_4cfef_r2 : List Cond := [Cond.static yJ3_checkFromToIndex_8c36e, Cond.initialized RJ3, Cond.code yJ3_checkFromToIndex_8c36e cJ3_checkFromToIndex_8c36e 4 (some .int), Cond.methodLink RJ2 244 yJ2_indexOfCharUnsafe_4cfef, Cond.static yJ2_indexOfCharUnsafe_4cfef, Cond.code yJ2_indexOfCharUnsafe_4cfef cJ2_indexOfCharUnsafe_4cfef 5 (some .int), Cond.methodLink RJ2 71 yJ2_getChar_3b067, Cond.static yJ2_getChar_3b067, Cond.code yJ2_getChar_3b067 cJ2_getChar_3b067 2 (some .char), Cond.fieldLink RJ2 44 "java/lang/StringUTF16" "$assertionsDisabled" "Z", Cond.fieldLink RJ2 59 "java/lang/StringUTF16" "HI_BYTE_SHIFT" "I", Cond.fieldLink RJ2 63 "java/lang/StringUTF16" "LO_BYTE_SHIFT" "I", Cond.methodLink RJ2 232 yJ2_indexOfSupplementary_4cfef, Cond.static yJ2_indexOfSupplementary_4cfef, Cond.code yJ2_indexOfSupplementary_4cfef cJ2_indexOfSupplementary_4cfef 7 (some .int), Cond.methodLink RJ2 164 yJ11_isValidCodePoint_9a6ad, Cond.static yJ11_isValidCodePoint_9a6ad, Cond.initialized RJ11, Cond.code yJ11_isValidCodePoint_9a6ad cJ11_isValidCodePoint_9a6ad 2 (some .boolean), Cond.methodLink RJ2 157 yJ11_highSurrogate_5068e, Cond.static yJ11_highSurrogate_5068e, Cond.code yJ11_highSurrogate_5068e cJ11_highSurrogate_5068e 1 (some .char), Cond.constant RJ11 110 (55232), Cond.methodLink RJ2 161 yJ11_lowSurrogate_5068e]
def wsJ2_indexOf_4cfef_r3 : List Cond := [Cond.static yJ11_lowSurrogate_5068e, Cond.code yJ11_lowSurrogate_5068e cJ11_lowSurrogate_5068e 1 (some .char), Cond.constant RJ11 76 (56320)]
def wsJ2_indexOf_4cfef : List Cond := .code yJ2_indexOf_4cfef cJ2_indexOf_4cfef 4 (some .int) :: ((wsJ2_indexOf_4cfef_r1 ++ (wsJ2_indexOf_4cfef_r2 ++ wsJ2_indexOf_4cfef_r3)))
def wsJ0_indexOf_7cf53_r1 : List Cond := [Cond.fieldLink RJ0 9 "java/lang/String" "value" "[B", Cond.methodLink RJ0 492 yJ0_isLatin1_aae02, Cond.instanceMethod yJ0_isLatin1_aae02, Cond.selects RJ0 yJ0_isLatin1_aae02 yJ0_isLatin1_aae02, Cond.initialized RJ0, Cond.code yJ0_isLatin1_aae02 cJ0_isLatin1_aae02 1 (some .boolean), Cond.fieldLink RJ0 38 "java/lang/String" "COMPACT_STRINGS" "Z", Cond.fieldLink RJ0 15 "java/lang/String" "coder" "B", Cond.methodLink RJ0 505 yJ0_length_8abf5, Cond.instanceMethod yJ0_length_8abf5, Cond.selects RJ0 yJ0_length_8abf5 yJ0_length_8abf5, Cond.code yJ0_length_8abf5 cJ0_length_8abf5 1 (some .int), Cond.methodLink RJ0 335 yJ0_coder_7d493, Cond.instanceMethod yJ0_coder_7d493, Cond.selects RJ0 yJ0_coder_7d493 yJ0_coder_7d493, Cond.code yJ0_coder_7d493 cJ0_coder_7d493 1 (some .byte), Cond.methodLink RJ0 637 yJ1_indexOf_4cfef, Cond.static yJ1_indexOf_4cfef, Cond.initialized RJ1, Cond.code yJ1_indexOf_4cfef cJ1_indexOf_4cfef 4 (some .int), Cond.methodLink RJ1 92 Lib.Math.max.name, Cond.static Lib.Math.max.name, Cond.initialized "java/lang/Math", Cond.code Lib.Math.max.name Lib.Math.max.code 2 (some .int)]
def wsJ0_indexOf_7cf53_r2 : List Cond := [Cond.methodLink RJ1 38 Lib.Math.min.name, Cond.static Lib.Math.min.name, Cond.code Lib.Math.min.name Lib.Math.min.code 2 (some .int), Cond.methodLink RJ1 88 yJ1_canEncode_9a6ad, Cond.static yJ1_canEncode_9a6ad, Cond.code yJ1_canEncode_9a6ad cJ1_canEncode_9a6ad 1 (some .boolean), Cond.methodLink RJ1 95 yJ1_indexOfChar_4cfef, Cond.static yJ1_indexOfChar_4cfef, Cond.code yJ1_indexOfChar_4cfef cJ1_indexOfChar_4cfef 6 (some .int), Cond.methodLink RJ0 640 yJ2_indexOf_4cfef, Cond.static yJ2_indexOf_4cfef, Cond.initialized RJ2, Cond.code yJ2_indexOf_4cfef cJ2_indexOf_4cfef 4 (some .int), Cond.methodLink RJ2 224 Lib.Math.max.name, Cond.methodLink RJ2 183 Lib.Math.min.name, Cond.constant RJ2 227 (65536), Cond.methodLink RJ2 228 yJ2_indexOfChar_4cfef, Cond.static yJ2_indexOfChar_4cfef, Cond.code yJ2_indexOfChar_4cfef cJ2_indexOfChar_4cfef 4 (some .int), Cond.methodLink RJ2 96 yJ2_checkBoundsBeginEnd_d044e, Cond.static yJ2_checkBoundsBeginEnd_d044e, Cond.code yJ2_checkBoundsBeginEnd_d044e cJ2_checkBoundsBeginEnd_d044e 3 none, Cond.methodLink RJ2 48 yJ2_length_9d52b, Cond.static yJ2_length_9d52b]
def wsJ0_indexOf_7cf53_r3 : List Cond := [Cond.code yJ2_length_9d52b cJ2_length_9d52b 1 (some .int), Cond.methodLink RJ2 241 yJ0_checkBoundsBeginEnd_23922, Cond.static yJ0_checkBoundsBeginEnd_23922, Cond.code yJ0_checkBoundsBeginEnd_23922 cJ0_checkBoundsBeginEnd_23922 3 none, Cond.fieldLink RJ0 1053 "jdk/internal/util/Preconditions" "SIOOBE_FORMATTER" "Ljava/util/function/BiFunction;", Cond.methodLink RJ0 1062 yJ3_checkFromToIndex_8c36e, Cond.static yJ3_checkFromToIndex_8c36e, Cond.initialized RJ3, Cond.code yJ3_checkFromToIndex_8c36e cJ3_checkFromToIndex_8c36e 4 (some .int), Cond.methodLink RJ2 244 yJ2_indexOfCharUnsafe_4cfef, Cond.static yJ2_indexOfCharUnsafe_4cfef, Cond.code yJ2_indexOfCharUnsafe_4cfef cJ2_indexOfCharUnsafe_4cfef 5 (some .int), Cond.methodLink RJ2 71 yJ2_getChar_3b067, Cond.static yJ2_getChar_3b067, Cond.code yJ2_getChar_3b067 cJ2_getChar_3b067 2 (some .char), Cond.fieldLink RJ2 44 "java/lang/StringUTF16" "$assertionsDisabled" "Z", Cond.fieldLink RJ2 59 "java/lang/StringUTF16" "HI_BYTE_SHIFT" "I", Cond.fieldLink RJ2 63 "java/lang/StringUTF16" "LO_BYTE_SHIFT" "I", Cond.methodLink RJ2 232 yJ2_indexOfSupplementary_4cfef, Cond.static yJ2_indexOfSupplementary_4cfef, Cond.code yJ2_indexOfSupplementary_4cfef cJ2_indexOfSupplementary_4cfef 7 (some .int), Cond.methodLink RJ2 164 yJ11_isValidCodePoint_9a6ad, Cond.static yJ11_isValidCodePoint_9a6ad, Cond.initialized RJ11]
def wsJ0_indexOf_7cf53_r4 : List Cond := [Cond.code yJ11_isValidCodePoint_9a6ad cJ11_isValidCodePoint_9a6ad 2 (some .boolean), Cond.methodLink RJ2 157 yJ11_highSurrogate_5068e, Cond.static yJ11_highSurrogate_5068e, Cond.code yJ11_highSurrogate_5068e cJ11_highSurrogate_5068e 1 (some .char), Cond.constant RJ11 110 (55232), Cond.methodLink RJ2 161 yJ11_lowSurrogate_5068e, Cond.static yJ11_lowSurrogate_5068e, Cond.code yJ11_lowSurrogate_5068e cJ11_lowSurrogate_5068e 1 (some .char), Cond.constant RJ11 76 (56320)]
def wsJ0_indexOf_7cf53 : List Cond := .code yJ0_indexOf_7cf53 cJ0_indexOf_7cf53 3 (some .int) :: ((wsJ0_indexOf_7cf53_r1 ++ (wsJ0_indexOf_7cf53_r2 ++ (wsJ0_indexOf_7cf53_r3 ++ wsJ0_indexOf_7cf53_r4))))
def wsJ0_indexOf_0f7a4_r1 : List Cond := [Cond.methodLink RJ0 633 yJ0_indexOf_7cf53, Cond.instanceMethod yJ0_indexOf_7cf53, Cond.selects RJ0 yJ0_indexOf_7cf53 yJ0_indexOf_7cf53, Cond.initialized RJ0, Cond.code yJ0_indexOf_7cf53 cJ0_indexOf_7cf53 3 (some .int), Cond.fieldLink RJ0 9 "java/lang/String" "value" "[B", Cond.methodLink RJ0 492 yJ0_isLatin1_aae02, Cond.instanceMethod yJ0_isLatin1_aae02, Cond.selects RJ0 yJ0_isLatin1_aae02 yJ0_isLatin1_aae02, Cond.code yJ0_isLatin1_aae02 cJ0_isLatin1_aae02 1 (some .boolean), Cond.fieldLink RJ0 38 "java/lang/String" "COMPACT_STRINGS" "Z", Cond.fieldLink RJ0 15 "java/lang/String" "coder" "B", Cond.methodLink RJ0 505 yJ0_length_8abf5, Cond.instanceMethod yJ0_length_8abf5, Cond.selects RJ0 yJ0_length_8abf5 yJ0_length_8abf5, Cond.code yJ0_length_8abf5 cJ0_length_8abf5 1 (some .int), Cond.methodLink RJ0 335 yJ0_coder_7d493, Cond.instanceMethod yJ0_coder_7d493, Cond.selects RJ0 yJ0_coder_7d493 yJ0_coder_7d493, Cond.code yJ0_coder_7d493 cJ0_coder_7d493 1 (some .byte), Cond.methodLink RJ0 637 yJ1_indexOf_4cfef, Cond.static yJ1_indexOf_4cfef, Cond.initialized RJ1, Cond.code yJ1_indexOf_4cfef cJ1_indexOf_4cfef 4 (some .int)]
def wsJ0_indexOf_0f7a4_r2 : List Cond := [Cond.methodLink RJ1 92 Lib.Math.max.name, Cond.static Lib.Math.max.name, Cond.initialized "java/lang/Math", Cond.code Lib.Math.max.name Lib.Math.max.code 2 (some .int), Cond.methodLink RJ1 38 Lib.Math.min.name, Cond.static Lib.Math.min.name, Cond.code Lib.Math.min.name Lib.Math.min.code 2 (some .int), Cond.methodLink RJ1 88 yJ1_canEncode_9a6ad, Cond.static yJ1_canEncode_9a6ad, Cond.code yJ1_canEncode_9a6ad cJ1_canEncode_9a6ad 1 (some .boolean), Cond.methodLink RJ1 95 yJ1_indexOfChar_4cfef, Cond.static yJ1_indexOfChar_4cfef, Cond.code yJ1_indexOfChar_4cfef cJ1_indexOfChar_4cfef 6 (some .int), Cond.methodLink RJ0 640 yJ2_indexOf_4cfef, Cond.static yJ2_indexOf_4cfef, Cond.initialized RJ2, Cond.code yJ2_indexOf_4cfef cJ2_indexOf_4cfef 4 (some .int), Cond.methodLink RJ2 224 Lib.Math.max.name, Cond.methodLink RJ2 183 Lib.Math.min.name, Cond.constant RJ2 227 (65536), Cond.methodLink RJ2 228 yJ2_indexOfChar_4cfef, Cond.static yJ2_indexOfChar_4cfef, Cond.code yJ2_indexOfChar_4cfef cJ2_indexOfChar_4cfef 4 (some .int), Cond.methodLink RJ2 96 yJ2_checkBoundsBeginEnd_d044e]
def wsJ0_indexOf_0f7a4_r3 : List Cond := [Cond.static yJ2_checkBoundsBeginEnd_d044e, Cond.code yJ2_checkBoundsBeginEnd_d044e cJ2_checkBoundsBeginEnd_d044e 3 none, Cond.methodLink RJ2 48 yJ2_length_9d52b, Cond.static yJ2_length_9d52b, Cond.code yJ2_length_9d52b cJ2_length_9d52b 1 (some .int), Cond.methodLink RJ2 241 yJ0_checkBoundsBeginEnd_23922, Cond.static yJ0_checkBoundsBeginEnd_23922, Cond.code yJ0_checkBoundsBeginEnd_23922 cJ0_checkBoundsBeginEnd_23922 3 none, Cond.fieldLink RJ0 1053 "jdk/internal/util/Preconditions" "SIOOBE_FORMATTER" "Ljava/util/function/BiFunction;", Cond.methodLink RJ0 1062 yJ3_checkFromToIndex_8c36e, Cond.static yJ3_checkFromToIndex_8c36e, Cond.initialized RJ3, Cond.code yJ3_checkFromToIndex_8c36e cJ3_checkFromToIndex_8c36e 4 (some .int), Cond.methodLink RJ2 244 yJ2_indexOfCharUnsafe_4cfef, Cond.static yJ2_indexOfCharUnsafe_4cfef, Cond.code yJ2_indexOfCharUnsafe_4cfef cJ2_indexOfCharUnsafe_4cfef 5 (some .int), Cond.methodLink RJ2 71 yJ2_getChar_3b067, Cond.static yJ2_getChar_3b067, Cond.code yJ2_getChar_3b067 cJ2_getChar_3b067 2 (some .char), Cond.fieldLink RJ2 44 "java/lang/StringUTF16" "$assertionsDisabled" "Z", Cond.fieldLink RJ2 59 "java/lang/StringUTF16" "HI_BYTE_SHIFT" "I", Cond.fieldLink RJ2 63 "java/lang/StringUTF16" "LO_BYTE_SHIFT" "I", Cond.methodLink RJ2 232 yJ2_indexOfSupplementary_4cfef, Cond.static yJ2_indexOfSupplementary_4cfef]
def wsJ0_indexOf_0f7a4_r4 : List Cond := [Cond.code yJ2_indexOfSupplementary_4cfef cJ2_indexOfSupplementary_4cfef 7 (some .int), Cond.methodLink RJ2 164 yJ11_isValidCodePoint_9a6ad, Cond.static yJ11_isValidCodePoint_9a6ad, Cond.initialized RJ11, Cond.code yJ11_isValidCodePoint_9a6ad cJ11_isValidCodePoint_9a6ad 2 (some .boolean), Cond.methodLink RJ2 157 yJ11_highSurrogate_5068e, Cond.static yJ11_highSurrogate_5068e, Cond.code yJ11_highSurrogate_5068e cJ11_highSurrogate_5068e 1 (some .char), Cond.constant RJ11 110 (55232), Cond.methodLink RJ2 161 yJ11_lowSurrogate_5068e, Cond.static yJ11_lowSurrogate_5068e, Cond.code yJ11_lowSurrogate_5068e cJ11_lowSurrogate_5068e 1 (some .char), Cond.constant RJ11 76 (56320)]
def wsJ0_indexOf_0f7a4 : List Cond := .code yJ0_indexOf_0f7a4 cJ0_indexOf_0f7a4 2 (some .int) :: ((wsJ0_indexOf_0f7a4_r1 ++ (wsJ0_indexOf_0f7a4_r2 ++ (wsJ0_indexOf_0f7a4_r3 ++ wsJ0_indexOf_0f7a4_r4))))
def wsX2_readFrom_r1 : List Cond := [Cond.fieldLink RX2 21 "VowDoves$Page" "vowsBegin" "I", Cond.methodLink RX2 27 Lib.Math.min.name, Cond.static Lib.Math.min.name, Cond.initialized "java/lang/Math", Cond.code Lib.Math.min.name Lib.Math.min.code 2 (some .int), Cond.fieldLink RX2 33 "VowDoves$Cote" "keepers" "I", Cond.fieldLink RX2 36 "VowDoves$Page" "size" "I", Cond.fieldLink RX2 39 "VowDoves$Cote" "holes" "I", Cond.fieldLink RX2 9 "VowDoves$Cote" "kinds" "[I", Cond.fieldLink RX2 44 "VowDoves$Page" "letters" "[I", Cond.fieldLink RX2 15 "VowDoves$Cote" "faiths" "[I", Cond.fieldLink RX2 18 "VowDoves$Cote" "hards" "[I", Cond.methodLink RX2 47 yJ0_indexOf_0f7a4, Cond.instanceMethod yJ0_indexOf_0f7a4, Cond.selects RJ0 yJ0_indexOf_0f7a4 yJ0_indexOf_0f7a4, Cond.initialized RJ0, Cond.code yJ0_indexOf_0f7a4 cJ0_indexOf_0f7a4 2 (some .int), Cond.methodLink RJ0 633 yJ0_indexOf_7cf53, Cond.instanceMethod yJ0_indexOf_7cf53, Cond.selects RJ0 yJ0_indexOf_7cf53 yJ0_indexOf_7cf53, Cond.code yJ0_indexOf_7cf53 cJ0_indexOf_7cf53 3 (some .int), Cond.fieldLink RJ0 9 "java/lang/String" "value" "[B", Cond.methodLink RJ0 492 yJ0_isLatin1_aae02, Cond.instanceMethod yJ0_isLatin1_aae02]
def wsX2_readFrom_r2 : List Cond := [Cond.selects RJ0 yJ0_isLatin1_aae02 yJ0_isLatin1_aae02, Cond.code yJ0_isLatin1_aae02 cJ0_isLatin1_aae02 1 (some .boolean), Cond.fieldLink RJ0 38 "java/lang/String" "COMPACT_STRINGS" "Z", Cond.fieldLink RJ0 15 "java/lang/String" "coder" "B", Cond.methodLink RJ0 505 yJ0_length_8abf5, Cond.instanceMethod yJ0_length_8abf5, Cond.selects RJ0 yJ0_length_8abf5 yJ0_length_8abf5, Cond.code yJ0_length_8abf5 cJ0_length_8abf5 1 (some .int), Cond.methodLink RJ0 335 yJ0_coder_7d493, Cond.instanceMethod yJ0_coder_7d493, Cond.selects RJ0 yJ0_coder_7d493 yJ0_coder_7d493, Cond.code yJ0_coder_7d493 cJ0_coder_7d493 1 (some .byte), Cond.methodLink RJ0 637 yJ1_indexOf_4cfef, Cond.static yJ1_indexOf_4cfef, Cond.initialized RJ1, Cond.code yJ1_indexOf_4cfef cJ1_indexOf_4cfef 4 (some .int), Cond.methodLink RJ1 92 Lib.Math.max.name, Cond.static Lib.Math.max.name, Cond.code Lib.Math.max.name Lib.Math.max.code 2 (some .int), Cond.methodLink RJ1 38 Lib.Math.min.name, Cond.methodLink RJ1 88 yJ1_canEncode_9a6ad, Cond.static yJ1_canEncode_9a6ad, Cond.code yJ1_canEncode_9a6ad cJ1_canEncode_9a6ad 1 (some .boolean), Cond.methodLink RJ1 95 yJ1_indexOfChar_4cfef]
def wsX2_readFrom_r3 : List Cond := [Cond.static yJ1_indexOfChar_4cfef, Cond.code yJ1_indexOfChar_4cfef cJ1_indexOfChar_4cfef 6 (some .int), Cond.methodLink RJ0 640 yJ2_indexOf_4cfef, Cond.static yJ2_indexOf_4cfef, Cond.initialized RJ2, Cond.code yJ2_indexOf_4cfef cJ2_indexOf_4cfef 4 (some .int), Cond.methodLink RJ2 224 Lib.Math.max.name, Cond.methodLink RJ2 183 Lib.Math.min.name, Cond.constant RJ2 227 (65536), Cond.methodLink RJ2 228 yJ2_indexOfChar_4cfef, Cond.static yJ2_indexOfChar_4cfef, Cond.code yJ2_indexOfChar_4cfef cJ2_indexOfChar_4cfef 4 (some .int), Cond.methodLink RJ2 96 yJ2_checkBoundsBeginEnd_d044e, Cond.static yJ2_checkBoundsBeginEnd_d044e, Cond.code yJ2_checkBoundsBeginEnd_d044e cJ2_checkBoundsBeginEnd_d044e 3 none, Cond.methodLink RJ2 48 yJ2_length_9d52b, Cond.static yJ2_length_9d52b, Cond.code yJ2_length_9d52b cJ2_length_9d52b 1 (some .int), Cond.methodLink RJ2 241 yJ0_checkBoundsBeginEnd_23922, Cond.static yJ0_checkBoundsBeginEnd_23922, Cond.code yJ0_checkBoundsBeginEnd_23922 cJ0_checkBoundsBeginEnd_23922 3 none, Cond.fieldLink RJ0 1053 "jdk/internal/util/Preconditions" "SIOOBE_FORMATTER" "Ljava/util/function/BiFunction;", Cond.methodLink RJ0 1062 yJ3_checkFromToIndex_8c36e, Cond.static yJ3_checkFromToIndex_8c36e]
def wsX2_readFrom_r4 : List Cond := [Cond.initialized RJ3, Cond.code yJ3_checkFromToIndex_8c36e cJ3_checkFromToIndex_8c36e 4 (some .int), Cond.methodLink RJ2 244 yJ2_indexOfCharUnsafe_4cfef, Cond.static yJ2_indexOfCharUnsafe_4cfef, Cond.code yJ2_indexOfCharUnsafe_4cfef cJ2_indexOfCharUnsafe_4cfef 5 (some .int), Cond.methodLink RJ2 71 yJ2_getChar_3b067, Cond.static yJ2_getChar_3b067, Cond.code yJ2_getChar_3b067 cJ2_getChar_3b067 2 (some .char), Cond.fieldLink RJ2 44 "java/lang/StringUTF16" "$assertionsDisabled" "Z", Cond.fieldLink RJ2 59 "java/lang/StringUTF16" "HI_BYTE_SHIFT" "I", Cond.fieldLink RJ2 63 "java/lang/StringUTF16" "LO_BYTE_SHIFT" "I", Cond.methodLink RJ2 232 yJ2_indexOfSupplementary_4cfef, Cond.static yJ2_indexOfSupplementary_4cfef, Cond.code yJ2_indexOfSupplementary_4cfef cJ2_indexOfSupplementary_4cfef 7 (some .int), Cond.methodLink RJ2 164 yJ11_isValidCodePoint_9a6ad, Cond.static yJ11_isValidCodePoint_9a6ad, Cond.initialized RJ11, Cond.code yJ11_isValidCodePoint_9a6ad cJ11_isValidCodePoint_9a6ad 2 (some .boolean), Cond.methodLink RJ2 157 yJ11_highSurrogate_5068e, Cond.static yJ11_highSurrogate_5068e, Cond.code yJ11_highSurrogate_5068e cJ11_highSurrogate_5068e 1 (some .char), Cond.constant RJ11 110 (55232), Cond.methodLink RJ2 161 yJ11_lowSurrogate_5068e, Cond.static yJ11_lowSurrogate_5068e]
def wsX2_readFrom_r5 : List Cond := [Cond.code yJ11_lowSurrogate_5068e cJ11_lowSurrogate_5068e 1 (some .char), Cond.constant RJ11 76 (56320)]
def wsX2_readFrom : List Cond := .code yX2_readFrom cX2_readFrom 3 none :: ((wsX2_readFrom_r1 ++ (wsX2_readFrom_r2 ++ (wsX2_readFrom_r3 ++ (wsX2_readFrom_r4 ++ wsX2_readFrom_r5)))) ++ wsX40 ++ wsX20)
def wsX2_stands : List Cond := .code yX2_stands cX2_stands 1 (some .boolean) :: ([.fieldLink RX2 33 "VowDoves$Cote" "keepers" "I"] ++ wsX20)
def wsX2_hasHole : List Cond := .code yX2_hasHole cX2_hasHole 2 (some .boolean) :: ([.fieldLink RX2 39 "VowDoves$Cote" "holes" "I"] ++ wsX20)
def wsX3_init : List Cond := .code yX3_init cX3_init 1 none :: ([.methodLink RX3 3 objectInit, .instanceMethod objectInit, .code objectInit ⟨#[0xb1]⟩ 1 none, .classLink RX3 9 "[[I", .arrayClass .int, .fieldLink RX3 11 "VowDoves$Matching" "worth" "[[I", .fieldLink RX3 16 "VowDoves$Matching" "limit" "[I", .fieldLink RX3 20 "VowDoves$Matching" "room" "[I", .fieldLink RX3 23 "VowDoves$Matching" "tried" "[I", .fieldLink RX3 26 "VowDoves$Matching" "best" "[I"] ++ wsX30)
def wsX3_weigh_r1 : List Cond := [Cond.fieldLink RX3 11 "VowDoves$Matching" "worth" "[[I", Cond.fieldLink RX3 59 "VowDoves$Cote" "hards" "[I", Cond.methodLink RX3 66 Lib.Math.max.name, Cond.static Lib.Math.max.name, Cond.initialized "java/lang/Math", Cond.code Lib.Math.max.name Lib.Math.max.code 2 (some .int), Cond.methodLink RX3 62 yX2_yearsKept, Cond.instanceMethod yX2_yearsKept, Cond.selects RX2 yX2_yearsKept yX2_yearsKept, Cond.initialized RX2, Cond.code yX2_yearsKept cX2_yearsKept 3 (some .int), Cond.fieldLink RX2 9 "VowDoves$Cote" "kinds" "[I", Cond.fieldLink RX2 15 "VowDoves$Cote" "faiths" "[I", Cond.methodLink RX2 53 yX2_hasKeeper, Cond.instanceMethod yX2_hasKeeper, Cond.selects RX2 yX2_hasKeeper yX2_hasKeeper, Cond.code yX2_hasKeeper cX2_hasKeeper 2 (some .boolean), Cond.fieldLink RX2 33 "VowDoves$Cote" "keepers" "I", Cond.static yX5_yearsKeptBy, Cond.initialized RX5, Cond.code yX5_yearsKeptBy cX5_yearsKeptBy 6 (some .int), Cond.methodLink RX5 248 Lib.Math.min.name, Cond.static Lib.Math.min.name, Cond.code Lib.Math.min.name Lib.Math.min.code 2 (some .int)]
def wsX3_weigh_r2 : List Cond := [Cond.methodLink RX5 253 Lib.Math.max.name, Cond.methodLink RX5 106 yX5_isOfKind, Cond.static yX5_isOfKind, Cond.code yX5_isOfKind cX5_isOfKind 2 (some .boolean)]
def wsX3_weigh : List Cond := .code yX3_weigh cX3_weigh 6 (some .int) :: ((wsX3_weigh_r1 ++ wsX3_weigh_r2) ++ wsX30 ++ wsX20)
def wsX3_search : List Cond := .code yX3_search cX3_search 4 none :: ([.fieldLink RX3 16 "VowDoves$Matching" "limit" "[I", .fieldLink RX3 51 "VowDoves$Matching" "most" "I", .fieldLink RX3 23 "VowDoves$Matching" "tried" "[I", .fieldLink RX3 26 "VowDoves$Matching" "best" "[I", .methodLink RX3 71 arraycopyName, .native arraycopyName, .static arraycopyName, .initialized "java/lang/System", .fieldLink RX3 20 "VowDoves$Matching" "room" "[I", .fieldLink RX3 11 "VowDoves$Matching" "worth" "[[I", .methodLink RX3 55 yX3_search, .static yX3_search, .initialized RX3] ++ wsX30)
def wsX3_solve_r1 : List Cond := [Cond.fieldLink RX3 20 "VowDoves$Matching" "room" "[I", Cond.fieldLink RX3 44 "VowDoves$Book" "birds" "[I", Cond.fieldLink RX3 16 "VowDoves$Matching" "limit" "[I", Cond.fieldLink RX3 23 "VowDoves$Matching" "tried" "[I", Cond.fieldLink RX3 51 "VowDoves$Matching" "most" "I", Cond.methodLink RX3 29 yX2_hasKeeper, Cond.instanceMethod yX2_hasKeeper, Cond.selects RX2 yX2_hasKeeper yX2_hasKeeper, Cond.initialized RX2, Cond.code yX2_hasKeeper cX2_hasKeeper 2 (some .boolean), Cond.fieldLink RX2 33 "VowDoves$Cote" "keepers" "I", Cond.methodLink RX3 35 yX0_roomOf, Cond.instanceMethod yX0_roomOf, Cond.selects RX0 yX0_roomOf yX0_roomOf, Cond.initialized RX0, Cond.code yX0_roomOf cX0_roomOf 2 (some .int), Cond.methodLink RX0 57 yX0_holesOf, Cond.instanceMethod yX0_holesOf, Cond.selects RX0 yX0_holesOf yX0_holesOf, Cond.code yX0_holesOf cX0_holesOf 4 (some .int), Cond.fieldLink RX0 9 "VowDoves$Book" "letTo" "[I", Cond.methodLink RX0 61 yJ6_bitCount_0f7a4, Cond.static yJ6_bitCount_0f7a4, Cond.initialized RJ6]
def wsX3_solve_r2 : List Cond := [Cond.code yJ6_bitCount_0f7a4 cJ6_bitCount_0f7a4 1 (some .int), Cond.constant RJ6 265 (1431655765), Cond.constant RJ6 266 (858993459), Cond.constant RJ6 267 (252645135), Cond.methodLink RX3 41 yX2_hasHole, Cond.instanceMethod yX2_hasHole, Cond.selects RX2 yX2_hasHole yX2_hasHole, Cond.code yX2_hasHole cX2_hasHole 2 (some .boolean), Cond.fieldLink RX2 39 "VowDoves$Cote" "holes" "I", Cond.methodLink RX3 47 yX3_weigh, Cond.instanceMethod yX3_weigh, Cond.selects RX3 yX3_weigh yX3_weigh, Cond.initialized RX3, Cond.code yX3_weigh cX3_weigh 6 (some .int), Cond.fieldLink RX3 11 "VowDoves$Matching" "worth" "[[I", Cond.fieldLink RX3 59 "VowDoves$Cote" "hards" "[I", Cond.methodLink RX3 66 Lib.Math.max.name, Cond.static Lib.Math.max.name, Cond.initialized "java/lang/Math", Cond.code Lib.Math.max.name Lib.Math.max.code 2 (some .int), Cond.methodLink RX3 62 yX2_yearsKept, Cond.instanceMethod yX2_yearsKept, Cond.selects RX2 yX2_yearsKept yX2_yearsKept, Cond.code yX2_yearsKept cX2_yearsKept 3 (some .int)]
def wsX3_solve_r3 : List Cond := [Cond.fieldLink RX2 9 "VowDoves$Cote" "kinds" "[I", Cond.fieldLink RX2 15 "VowDoves$Cote" "faiths" "[I", Cond.methodLink RX2 53 yX2_hasKeeper, Cond.static yX5_yearsKeptBy, Cond.initialized RX5, Cond.code yX5_yearsKeptBy cX5_yearsKeptBy 6 (some .int), Cond.methodLink RX5 248 Lib.Math.min.name, Cond.static Lib.Math.min.name, Cond.code Lib.Math.min.name Lib.Math.min.code 2 (some .int), Cond.methodLink RX5 253 Lib.Math.max.name, Cond.methodLink RX5 106 yX5_isOfKind, Cond.static yX5_isOfKind, Cond.code yX5_isOfKind cX5_isOfKind 2 (some .boolean), Cond.methodLink RX3 55 yX3_search, Cond.static yX3_search, Cond.code yX3_search cX3_search 4 none, Cond.fieldLink RX3 26 "VowDoves$Matching" "best" "[I", Cond.methodLink RX3 71 arraycopyName, Cond.native arraycopyName, Cond.static arraycopyName, Cond.initialized "java/lang/System"]
def wsX3_solve : List Cond := .code yX3_solve cX3_solve 5 none :: ((wsX3_solve_r1 ++ (wsX3_solve_r2 ++ wsX3_solve_r3)) ++ wsX30 ++ wsX00 ++ wsX20)
def wsX4_init : List Cond := .code yX4_init cX4_init 1 none :: ([.methodLink RX4 3 objectInit, .instanceMethod objectInit, .code objectInit ⟨#[0xb1]⟩ 1 none, .arrayClass .int, .fieldLink RX4 9 "VowDoves$Page" "letters" "[I"] ++ wsX40)
def wsX4_isDigit : List Cond := .code yX4_isDigit cX4_isDigit 1 (some .boolean) :: ([])
def wsX4_endsKeeper : List Cond := .code yX4_endsKeeper cX4_endsKeeper 4 (some .boolean) :: ([.fieldLink RX4 15 "VowDoves$Page" "vowsBegin" "I"] ++ wsX40)
def wsX4_fits_r1 : List Cond := [Cond.fieldLink RX4 9 "VowDoves$Page" "letters" "[I", Cond.fieldLink RX4 15 "VowDoves$Page" "vowsBegin" "I", Cond.methodLink RX4 30 yX4_isDigit, Cond.static yX4_isDigit, Cond.initialized RX4, Cond.code yX4_isDigit cX4_isDigit 1 (some .boolean), Cond.methodLink RX4 35 yJ0_indexOf_0f7a4, Cond.instanceMethod yJ0_indexOf_0f7a4, Cond.selects RJ0 yJ0_indexOf_0f7a4 yJ0_indexOf_0f7a4, Cond.initialized RJ0, Cond.code yJ0_indexOf_0f7a4 cJ0_indexOf_0f7a4 2 (some .int), Cond.methodLink RJ0 633 yJ0_indexOf_7cf53, Cond.instanceMethod yJ0_indexOf_7cf53, Cond.selects RJ0 yJ0_indexOf_7cf53 yJ0_indexOf_7cf53, Cond.code yJ0_indexOf_7cf53 cJ0_indexOf_7cf53 3 (some .int), Cond.fieldLink RJ0 9 "java/lang/String" "value" "[B", Cond.methodLink RJ0 492 yJ0_isLatin1_aae02, Cond.instanceMethod yJ0_isLatin1_aae02, Cond.selects RJ0 yJ0_isLatin1_aae02 yJ0_isLatin1_aae02, Cond.code yJ0_isLatin1_aae02 cJ0_isLatin1_aae02 1 (some .boolean), Cond.fieldLink RJ0 38 "java/lang/String" "COMPACT_STRINGS" "Z", Cond.fieldLink RJ0 15 "java/lang/String" "coder" "B", Cond.methodLink RJ0 505 yJ0_length_8abf5, Cond.instanceMethod yJ0_length_8abf5]
def wsX4_fits_r2 : List Cond := [Cond.selects RJ0 yJ0_length_8abf5 yJ0_length_8abf5, Cond.code yJ0_length_8abf5 cJ0_length_8abf5 1 (some .int), Cond.methodLink RJ0 335 yJ0_coder_7d493, Cond.instanceMethod yJ0_coder_7d493, Cond.selects RJ0 yJ0_coder_7d493 yJ0_coder_7d493, Cond.code yJ0_coder_7d493 cJ0_coder_7d493 1 (some .byte), Cond.methodLink RJ0 637 yJ1_indexOf_4cfef, Cond.static yJ1_indexOf_4cfef, Cond.initialized RJ1, Cond.code yJ1_indexOf_4cfef cJ1_indexOf_4cfef 4 (some .int), Cond.methodLink RJ1 92 Lib.Math.max.name, Cond.static Lib.Math.max.name, Cond.initialized "java/lang/Math", Cond.code Lib.Math.max.name Lib.Math.max.code 2 (some .int), Cond.methodLink RJ1 38 Lib.Math.min.name, Cond.static Lib.Math.min.name, Cond.code Lib.Math.min.name Lib.Math.min.code 2 (some .int), Cond.methodLink RJ1 88 yJ1_canEncode_9a6ad, Cond.static yJ1_canEncode_9a6ad, Cond.code yJ1_canEncode_9a6ad cJ1_canEncode_9a6ad 1 (some .boolean), Cond.methodLink RJ1 95 yJ1_indexOfChar_4cfef, Cond.static yJ1_indexOfChar_4cfef, Cond.code yJ1_indexOfChar_4cfef cJ1_indexOfChar_4cfef 6 (some .int), Cond.methodLink RJ0 640 yJ2_indexOf_4cfef]
def wsX4_fits_r3 : List Cond := [Cond.static yJ2_indexOf_4cfef, Cond.initialized RJ2, Cond.code yJ2_indexOf_4cfef cJ2_indexOf_4cfef 4 (some .int), Cond.methodLink RJ2 224 Lib.Math.max.name, Cond.methodLink RJ2 183 Lib.Math.min.name, Cond.constant RJ2 227 (65536), Cond.methodLink RJ2 228 yJ2_indexOfChar_4cfef, Cond.static yJ2_indexOfChar_4cfef, Cond.code yJ2_indexOfChar_4cfef cJ2_indexOfChar_4cfef 4 (some .int), Cond.methodLink RJ2 96 yJ2_checkBoundsBeginEnd_d044e, Cond.static yJ2_checkBoundsBeginEnd_d044e, Cond.code yJ2_checkBoundsBeginEnd_d044e cJ2_checkBoundsBeginEnd_d044e 3 none, Cond.methodLink RJ2 48 yJ2_length_9d52b, Cond.static yJ2_length_9d52b, Cond.code yJ2_length_9d52b cJ2_length_9d52b 1 (some .int), Cond.methodLink RJ2 241 yJ0_checkBoundsBeginEnd_23922, Cond.static yJ0_checkBoundsBeginEnd_23922, Cond.code yJ0_checkBoundsBeginEnd_23922 cJ0_checkBoundsBeginEnd_23922 3 none, Cond.fieldLink RJ0 1053 "jdk/internal/util/Preconditions" "SIOOBE_FORMATTER" "Ljava/util/function/BiFunction;", Cond.methodLink RJ0 1062 yJ3_checkFromToIndex_8c36e, Cond.static yJ3_checkFromToIndex_8c36e, Cond.initialized RJ3, Cond.code yJ3_checkFromToIndex_8c36e cJ3_checkFromToIndex_8c36e 4 (some .int), Cond.methodLink RJ2 244 yJ2_indexOfCharUnsafe_4cfef]
def wsX4_fits_r4 : List Cond := [Cond.static yJ2_indexOfCharUnsafe_4cfef, Cond.code yJ2_indexOfCharUnsafe_4cfef cJ2_indexOfCharUnsafe_4cfef 5 (some .int), Cond.methodLink RJ2 71 yJ2_getChar_3b067, Cond.static yJ2_getChar_3b067, Cond.code yJ2_getChar_3b067 cJ2_getChar_3b067 2 (some .char), Cond.fieldLink RJ2 44 "java/lang/StringUTF16" "$assertionsDisabled" "Z", Cond.fieldLink RJ2 59 "java/lang/StringUTF16" "HI_BYTE_SHIFT" "I", Cond.fieldLink RJ2 63 "java/lang/StringUTF16" "LO_BYTE_SHIFT" "I", Cond.methodLink RJ2 232 yJ2_indexOfSupplementary_4cfef, Cond.static yJ2_indexOfSupplementary_4cfef, Cond.code yJ2_indexOfSupplementary_4cfef cJ2_indexOfSupplementary_4cfef 7 (some .int), Cond.methodLink RJ2 164 yJ11_isValidCodePoint_9a6ad, Cond.static yJ11_isValidCodePoint_9a6ad, Cond.initialized RJ11, Cond.code yJ11_isValidCodePoint_9a6ad cJ11_isValidCodePoint_9a6ad 2 (some .boolean), Cond.methodLink RJ2 157 yJ11_highSurrogate_5068e, Cond.static yJ11_highSurrogate_5068e, Cond.code yJ11_highSurrogate_5068e cJ11_highSurrogate_5068e 1 (some .char), Cond.constant RJ11 110 (55232), Cond.methodLink RJ2 161 yJ11_lowSurrogate_5068e, Cond.static yJ11_lowSurrogate_5068e, Cond.code yJ11_lowSurrogate_5068e cJ11_lowSurrogate_5068e 1 (some .char), Cond.constant RJ11 76 (56320), Cond.methodLink RX4 41 yX4_endsKeeper]
def wsX4_fits_r5 : List Cond := [Cond.instanceMethod yX4_endsKeeper, Cond.selects RX4 yX4_endsKeeper yX4_endsKeeper, Cond.code yX4_endsKeeper cX4_endsKeeper 4 (some .boolean)]
def wsX4_fits : List Cond := .code yX4_fits cX4_fits 3 (some .boolean) :: ((wsX4_fits_r1 ++ (wsX4_fits_r2 ++ (wsX4_fits_r3 ++ (wsX4_fits_r4 ++ wsX4_fits_r5)))) ++ wsX40)
def wsX4_scan_r1 : List Cond := [Cond.fieldLink RX4 15 "VowDoves$Page" "vowsBegin" "I", Cond.fieldLink RX4 19 "VowDoves$Page" "size" "I", Cond.methodLink RX4 22 yX4_fits, Cond.instanceMethod yX4_fits, Cond.selects RX4 yX4_fits yX4_fits, Cond.initialized RX4, Cond.code yX4_fits cX4_fits 3 (some .boolean), Cond.fieldLink RX4 9 "VowDoves$Page" "letters" "[I", Cond.methodLink RX4 30 yX4_isDigit, Cond.static yX4_isDigit, Cond.code yX4_isDigit cX4_isDigit 1 (some .boolean), Cond.methodLink RX4 35 yJ0_indexOf_0f7a4, Cond.instanceMethod yJ0_indexOf_0f7a4, Cond.selects RJ0 yJ0_indexOf_0f7a4 yJ0_indexOf_0f7a4, Cond.initialized RJ0, Cond.code yJ0_indexOf_0f7a4 cJ0_indexOf_0f7a4 2 (some .int), Cond.methodLink RJ0 633 yJ0_indexOf_7cf53, Cond.instanceMethod yJ0_indexOf_7cf53, Cond.selects RJ0 yJ0_indexOf_7cf53 yJ0_indexOf_7cf53, Cond.code yJ0_indexOf_7cf53 cJ0_indexOf_7cf53 3 (some .int), Cond.fieldLink RJ0 9 "java/lang/String" "value" "[B", Cond.methodLink RJ0 492 yJ0_isLatin1_aae02, Cond.instanceMethod yJ0_isLatin1_aae02, Cond.selects RJ0 yJ0_isLatin1_aae02 yJ0_isLatin1_aae02]
def wsX4_scan_r2 : List Cond := [Cond.code yJ0_isLatin1_aae02 cJ0_isLatin1_aae02 1 (some .boolean), Cond.fieldLink RJ0 38 "java/lang/String" "COMPACT_STRINGS" "Z", Cond.fieldLink RJ0 15 "java/lang/String" "coder" "B", Cond.methodLink RJ0 505 yJ0_length_8abf5, Cond.instanceMethod yJ0_length_8abf5, Cond.selects RJ0 yJ0_length_8abf5 yJ0_length_8abf5, Cond.code yJ0_length_8abf5 cJ0_length_8abf5 1 (some .int), Cond.methodLink RJ0 335 yJ0_coder_7d493, Cond.instanceMethod yJ0_coder_7d493, Cond.selects RJ0 yJ0_coder_7d493 yJ0_coder_7d493, Cond.code yJ0_coder_7d493 cJ0_coder_7d493 1 (some .byte), Cond.methodLink RJ0 637 yJ1_indexOf_4cfef, Cond.static yJ1_indexOf_4cfef, Cond.initialized RJ1, Cond.code yJ1_indexOf_4cfef cJ1_indexOf_4cfef 4 (some .int), Cond.methodLink RJ1 92 Lib.Math.max.name, Cond.static Lib.Math.max.name, Cond.initialized "java/lang/Math", Cond.code Lib.Math.max.name Lib.Math.max.code 2 (some .int), Cond.methodLink RJ1 38 Lib.Math.min.name, Cond.static Lib.Math.min.name, Cond.code Lib.Math.min.name Lib.Math.min.code 2 (some .int), Cond.methodLink RJ1 88 yJ1_canEncode_9a6ad, Cond.static yJ1_canEncode_9a6ad]
def wsX4_scan_r3 : List Cond := [Cond.code yJ1_canEncode_9a6ad cJ1_canEncode_9a6ad 1 (some .boolean), Cond.methodLink RJ1 95 yJ1_indexOfChar_4cfef, Cond.static yJ1_indexOfChar_4cfef, Cond.code yJ1_indexOfChar_4cfef cJ1_indexOfChar_4cfef 6 (some .int), Cond.methodLink RJ0 640 yJ2_indexOf_4cfef, Cond.static yJ2_indexOf_4cfef, Cond.initialized RJ2, Cond.code yJ2_indexOf_4cfef cJ2_indexOf_4cfef 4 (some .int), Cond.methodLink RJ2 224 Lib.Math.max.name, Cond.methodLink RJ2 183 Lib.Math.min.name, Cond.constant RJ2 227 (65536), Cond.methodLink RJ2 228 yJ2_indexOfChar_4cfef, Cond.static yJ2_indexOfChar_4cfef, Cond.code yJ2_indexOfChar_4cfef cJ2_indexOfChar_4cfef 4 (some .int), Cond.methodLink RJ2 96 yJ2_checkBoundsBeginEnd_d044e, Cond.static yJ2_checkBoundsBeginEnd_d044e, Cond.code yJ2_checkBoundsBeginEnd_d044e cJ2_checkBoundsBeginEnd_d044e 3 none, Cond.methodLink RJ2 48 yJ2_length_9d52b, Cond.static yJ2_length_9d52b, Cond.code yJ2_length_9d52b cJ2_length_9d52b 1 (some .int), Cond.methodLink RJ2 241 yJ0_checkBoundsBeginEnd_23922, Cond.static yJ0_checkBoundsBeginEnd_23922, Cond.code yJ0_checkBoundsBeginEnd_23922 cJ0_checkBoundsBeginEnd_23922 3 none, Cond.fieldLink RJ0 1053 "jdk/internal/util/Preconditions" "SIOOBE_FORMATTER" "Ljava/util/function/BiFunction;"]
def wsX4_scan_r4 : List Cond := [Cond.methodLink RJ0 1062 yJ3_checkFromToIndex_8c36e, Cond.static yJ3_checkFromToIndex_8c36e, Cond.initialized RJ3, Cond.code yJ3_checkFromToIndex_8c36e cJ3_checkFromToIndex_8c36e 4 (some .int), Cond.methodLink RJ2 244 yJ2_indexOfCharUnsafe_4cfef, Cond.static yJ2_indexOfCharUnsafe_4cfef, Cond.code yJ2_indexOfCharUnsafe_4cfef cJ2_indexOfCharUnsafe_4cfef 5 (some .int), Cond.methodLink RJ2 71 yJ2_getChar_3b067, Cond.static yJ2_getChar_3b067, Cond.code yJ2_getChar_3b067 cJ2_getChar_3b067 2 (some .char), Cond.fieldLink RJ2 44 "java/lang/StringUTF16" "$assertionsDisabled" "Z", Cond.fieldLink RJ2 59 "java/lang/StringUTF16" "HI_BYTE_SHIFT" "I", Cond.fieldLink RJ2 63 "java/lang/StringUTF16" "LO_BYTE_SHIFT" "I", Cond.methodLink RJ2 232 yJ2_indexOfSupplementary_4cfef, Cond.static yJ2_indexOfSupplementary_4cfef, Cond.code yJ2_indexOfSupplementary_4cfef cJ2_indexOfSupplementary_4cfef 7 (some .int), Cond.methodLink RJ2 164 yJ11_isValidCodePoint_9a6ad, Cond.static yJ11_isValidCodePoint_9a6ad, Cond.initialized RJ11, Cond.code yJ11_isValidCodePoint_9a6ad cJ11_isValidCodePoint_9a6ad 2 (some .boolean), Cond.methodLink RJ2 157 yJ11_highSurrogate_5068e, Cond.static yJ11_highSurrogate_5068e, Cond.code yJ11_highSurrogate_5068e cJ11_highSurrogate_5068e 1 (some .char), Cond.constant RJ11 110 (55232)]
def wsX4_scan_r5 : List Cond := [Cond.methodLink RJ2 161 yJ11_lowSurrogate_5068e, Cond.static yJ11_lowSurrogate_5068e, Cond.code yJ11_lowSurrogate_5068e cJ11_lowSurrogate_5068e 1 (some .char), Cond.constant RJ11 76 (56320), Cond.methodLink RX4 41 yX4_endsKeeper, Cond.instanceMethod yX4_endsKeeper, Cond.selects RX4 yX4_endsKeeper yX4_endsKeeper, Cond.code yX4_endsKeeper cX4_endsKeeper 4 (some .boolean)]
def wsX4_scan : List Cond := .code yX4_scan cX4_scan 2 (some .int) :: ((wsX4_scan_r1 ++ (wsX4_scan_r2 ++ (wsX4_scan_r3 ++ (wsX4_scan_r4 ++ wsX4_scan_r5)))) ++ wsX40)
def wsX4_isTower_r1 : List Cond := [Cond.fieldLink RX4 19 "VowDoves$Page" "size" "I", Cond.fieldLink RX4 15 "VowDoves$Page" "vowsBegin" "I", Cond.methodLink RX4 26 yX4_scan, Cond.instanceMethod yX4_scan, Cond.selects RX4 yX4_scan yX4_scan, Cond.initialized RX4, Cond.code yX4_scan cX4_scan 2 (some .int), Cond.methodLink RX4 22 yX4_fits, Cond.instanceMethod yX4_fits, Cond.selects RX4 yX4_fits yX4_fits, Cond.code yX4_fits cX4_fits 3 (some .boolean), Cond.fieldLink RX4 9 "VowDoves$Page" "letters" "[I", Cond.methodLink RX4 30 yX4_isDigit, Cond.static yX4_isDigit, Cond.code yX4_isDigit cX4_isDigit 1 (some .boolean), Cond.methodLink RX4 35 yJ0_indexOf_0f7a4, Cond.instanceMethod yJ0_indexOf_0f7a4, Cond.selects RJ0 yJ0_indexOf_0f7a4 yJ0_indexOf_0f7a4, Cond.initialized RJ0, Cond.code yJ0_indexOf_0f7a4 cJ0_indexOf_0f7a4 2 (some .int), Cond.methodLink RJ0 633 yJ0_indexOf_7cf53, Cond.instanceMethod yJ0_indexOf_7cf53, Cond.selects RJ0 yJ0_indexOf_7cf53 yJ0_indexOf_7cf53, Cond.code yJ0_indexOf_7cf53 cJ0_indexOf_7cf53 3 (some .int)]
def wsX4_isTower_r2 : List Cond := [Cond.fieldLink RJ0 9 "java/lang/String" "value" "[B", Cond.methodLink RJ0 492 yJ0_isLatin1_aae02, Cond.instanceMethod yJ0_isLatin1_aae02, Cond.selects RJ0 yJ0_isLatin1_aae02 yJ0_isLatin1_aae02, Cond.code yJ0_isLatin1_aae02 cJ0_isLatin1_aae02 1 (some .boolean), Cond.fieldLink RJ0 38 "java/lang/String" "COMPACT_STRINGS" "Z", Cond.fieldLink RJ0 15 "java/lang/String" "coder" "B", Cond.methodLink RJ0 505 yJ0_length_8abf5, Cond.instanceMethod yJ0_length_8abf5, Cond.selects RJ0 yJ0_length_8abf5 yJ0_length_8abf5, Cond.code yJ0_length_8abf5 cJ0_length_8abf5 1 (some .int), Cond.methodLink RJ0 335 yJ0_coder_7d493, Cond.instanceMethod yJ0_coder_7d493, Cond.selects RJ0 yJ0_coder_7d493 yJ0_coder_7d493, Cond.code yJ0_coder_7d493 cJ0_coder_7d493 1 (some .byte), Cond.methodLink RJ0 637 yJ1_indexOf_4cfef, Cond.static yJ1_indexOf_4cfef, Cond.initialized RJ1, Cond.code yJ1_indexOf_4cfef cJ1_indexOf_4cfef 4 (some .int), Cond.methodLink RJ1 92 Lib.Math.max.name, Cond.static Lib.Math.max.name, Cond.initialized "java/lang/Math", Cond.code Lib.Math.max.name Lib.Math.max.code 2 (some .int), Cond.methodLink RJ1 38 Lib.Math.min.name]
def wsX4_isTower_r3 : List Cond := [Cond.static Lib.Math.min.name, Cond.code Lib.Math.min.name Lib.Math.min.code 2 (some .int), Cond.methodLink RJ1 88 yJ1_canEncode_9a6ad, Cond.static yJ1_canEncode_9a6ad, Cond.code yJ1_canEncode_9a6ad cJ1_canEncode_9a6ad 1 (some .boolean), Cond.methodLink RJ1 95 yJ1_indexOfChar_4cfef, Cond.static yJ1_indexOfChar_4cfef, Cond.code yJ1_indexOfChar_4cfef cJ1_indexOfChar_4cfef 6 (some .int), Cond.methodLink RJ0 640 yJ2_indexOf_4cfef, Cond.static yJ2_indexOf_4cfef, Cond.initialized RJ2, Cond.code yJ2_indexOf_4cfef cJ2_indexOf_4cfef 4 (some .int), Cond.methodLink RJ2 224 Lib.Math.max.name, Cond.methodLink RJ2 183 Lib.Math.min.name, Cond.constant RJ2 227 (65536), Cond.methodLink RJ2 228 yJ2_indexOfChar_4cfef, Cond.static yJ2_indexOfChar_4cfef, Cond.code yJ2_indexOfChar_4cfef cJ2_indexOfChar_4cfef 4 (some .int), Cond.methodLink RJ2 96 yJ2_checkBoundsBeginEnd_d044e, Cond.static yJ2_checkBoundsBeginEnd_d044e, Cond.code yJ2_checkBoundsBeginEnd_d044e cJ2_checkBoundsBeginEnd_d044e 3 none, Cond.methodLink RJ2 48 yJ2_length_9d52b, Cond.static yJ2_length_9d52b, Cond.code yJ2_length_9d52b cJ2_length_9d52b 1 (some .int)]
def wsX4_isTower_r4 : List Cond := [Cond.methodLink RJ2 241 yJ0_checkBoundsBeginEnd_23922, Cond.static yJ0_checkBoundsBeginEnd_23922, Cond.code yJ0_checkBoundsBeginEnd_23922 cJ0_checkBoundsBeginEnd_23922 3 none, Cond.fieldLink RJ0 1053 "jdk/internal/util/Preconditions" "SIOOBE_FORMATTER" "Ljava/util/function/BiFunction;", Cond.methodLink RJ0 1062 yJ3_checkFromToIndex_8c36e, Cond.static yJ3_checkFromToIndex_8c36e, Cond.initialized RJ3, Cond.code yJ3_checkFromToIndex_8c36e cJ3_checkFromToIndex_8c36e 4 (some .int), Cond.methodLink RJ2 244 yJ2_indexOfCharUnsafe_4cfef, Cond.static yJ2_indexOfCharUnsafe_4cfef, Cond.code yJ2_indexOfCharUnsafe_4cfef cJ2_indexOfCharUnsafe_4cfef 5 (some .int), Cond.methodLink RJ2 71 yJ2_getChar_3b067, Cond.static yJ2_getChar_3b067, Cond.code yJ2_getChar_3b067 cJ2_getChar_3b067 2 (some .char), Cond.fieldLink RJ2 44 "java/lang/StringUTF16" "$assertionsDisabled" "Z", Cond.fieldLink RJ2 59 "java/lang/StringUTF16" "HI_BYTE_SHIFT" "I", Cond.fieldLink RJ2 63 "java/lang/StringUTF16" "LO_BYTE_SHIFT" "I", Cond.methodLink RJ2 232 yJ2_indexOfSupplementary_4cfef, Cond.static yJ2_indexOfSupplementary_4cfef, Cond.code yJ2_indexOfSupplementary_4cfef cJ2_indexOfSupplementary_4cfef 7 (some .int), Cond.methodLink RJ2 164 yJ11_isValidCodePoint_9a6ad, Cond.static yJ11_isValidCodePoint_9a6ad, Cond.initialized RJ11, Cond.code yJ11_isValidCodePoint_9a6ad cJ11_isValidCodePoint_9a6ad 2 (some .boolean)]
def wsX4_isTower_r5 : List Cond := [Cond.methodLink RJ2 157 yJ11_highSurrogate_5068e, Cond.static yJ11_highSurrogate_5068e, Cond.code yJ11_highSurrogate_5068e cJ11_highSurrogate_5068e 1 (some .char), Cond.constant RJ11 110 (55232), Cond.methodLink RJ2 161 yJ11_lowSurrogate_5068e, Cond.static yJ11_lowSurrogate_5068e, Cond.code yJ11_lowSurrogate_5068e cJ11_lowSurrogate_5068e 1 (some .char), Cond.constant RJ11 76 (56320), Cond.methodLink RX4 41 yX4_endsKeeper, Cond.instanceMethod yX4_endsKeeper, Cond.selects RX4 yX4_endsKeeper yX4_endsKeeper, Cond.code yX4_endsKeeper cX4_endsKeeper 4 (some .boolean)]
def wsX4_isTower : List Cond := .code yX4_isTower cX4_isTower 1 (some .boolean) :: ((wsX4_isTower_r1 ++ (wsX4_isTower_r2 ++ (wsX4_isTower_r3 ++ (wsX4_isTower_r4 ++ wsX4_isTower_r5)))) ++ wsX40)
def wsX5_init_r1 : List Cond := [Cond.methodLink RX5 1 objectInit, Cond.instanceMethod objectInit, Cond.code objectInit ⟨#[0xb1]⟩ 1 none, Cond.classLink RX5 7 RX4, Cond.instantiable RX4 3, Cond.initialized RX4, Cond.fieldLink RX5 10 "VowDoves" "page" "LVowDoves$Page;", Cond.classLink RX5 16 RX2, Cond.instantiable RX2 5, Cond.initialized RX2, Cond.fieldLink RX5 19 "VowDoves" "cote" "LVowDoves$Cote;", Cond.classLink RX5 23 RX0, Cond.instantiable RX0 9, Cond.initialized RX0, Cond.fieldLink RX5 26 "VowDoves" "book" "LVowDoves$Book;", Cond.fieldLink RX5 30 "VowDoves" "keptBook" "LVowDoves$Book;", Cond.classLink RX5 33 RX3, Cond.instantiable RX3 6, Cond.initialized RX3, Cond.fieldLink RX5 36 "VowDoves" "matching" "LVowDoves$Matching;", Cond.classLink RX5 40 RX1, Cond.instantiable RX1 3, Cond.initialized RX1, Cond.fieldLink RX5 43 "VowDoves" "run" "LVowDoves$Centuries;"]
def wsX5_init_r2 : List Cond := [Cond.fieldLink RX5 47 "VowDoves" "isImageKept" "Z", Cond.fieldLink RX5 51 "VowDoves" "towersRead" "I", Cond.instanceMethod yX4_init, Cond.code yX4_init cX4_init 1 none, Cond.methodLink RX4 3 objectInit, Cond.arrayClass .int, Cond.fieldLink RX4 9 "VowDoves$Page" "letters" "[I", Cond.instanceMethod yX2_init, Cond.code yX2_init cX2_init 1 none, Cond.methodLink RX2 3 objectInit, Cond.fieldLink RX2 9 "VowDoves$Cote" "kinds" "[I", Cond.fieldLink RX2 15 "VowDoves$Cote" "faiths" "[I", Cond.fieldLink RX2 18 "VowDoves$Cote" "hards" "[I", Cond.methodLink RX5 25 yX0_init, Cond.instanceMethod yX0_init, Cond.code yX0_init cX0_init 1 none, Cond.methodLink RX0 3 objectInit, Cond.fieldLink RX0 9 "VowDoves$Book" "letTo" "[I", Cond.fieldLink RX0 15 "VowDoves$Book" "birds" "[I", Cond.fieldLink RX0 18 "VowDoves$Book" "eggs" "[I", Cond.fieldLink RX0 21 "VowDoves$Book" "broken" "[I", Cond.fieldLink RX0 24 "VowDoves$Book" "seenKeepers" "[I", Cond.fieldLink RX0 27 "VowDoves$Book" "seenHards" "[I", Cond.arrayClass .boolean]
def wsX5_init_r3 : List Cond := [Cond.fieldLink RX0 30 "VowDoves$Book" "seenKept" "[Z", Cond.methodLink RX0 34 yJ7_fill_53178, Cond.static yJ7_fill_53178, Cond.initialized RJ7, Cond.code yJ7_fill_53178 cJ7_fill_53178 4 none, Cond.instanceMethod yX3_init, Cond.code yX3_init cX3_init 1 none, Cond.methodLink RX3 3 objectInit, Cond.classLink RX3 9 "[[I", Cond.fieldLink RX3 11 "VowDoves$Matching" "worth" "[[I", Cond.fieldLink RX3 16 "VowDoves$Matching" "limit" "[I", Cond.fieldLink RX3 20 "VowDoves$Matching" "room" "[I", Cond.fieldLink RX3 23 "VowDoves$Matching" "tried" "[I", Cond.fieldLink RX3 26 "VowDoves$Matching" "best" "[I", Cond.instanceMethod yX1_init, Cond.code yX1_init cX1_init 1 none, Cond.methodLink RX1 3 objectInit, Cond.fieldLink RX1 9 "VowDoves$Centuries" "eggs" "[I"]
def wsX5_init : List Cond := .code yX5_init cX5_init 1 none :: ((wsX5_init_r1 ++ (wsX5_init_r2 ++ wsX5_init_r3)) ++ wsX40 ++ wsX50 ++ wsX20 ++ wsX00 ++ wsX30 ++ wsX10)
def wsX5_letter : List Cond := .code yX5_letter cX5_letter 2 (some .int) :: ([.fieldLink RX5 10 "VowDoves" "page" "LVowDoves$Page;", .fieldLink RX5 55 "VowDoves$Page" "size" "I", .fieldLink RX5 58 "VowDoves$Page" "letters" "[I"] ++ wsX50 ++ wsX40)
def wsX5_blank : List Cond := .code yX5_blank cX5_blank 2 (some .int) :: ([.fieldLink RX5 10 "VowDoves" "page" "LVowDoves$Page;", .fieldLink RX5 55 "VowDoves$Page" "size" "I"] ++ wsX50 ++ wsX40)
def wsX5_fault_r1 : List Cond := [Cond.fieldLink RX5 10 "VowDoves" "page" "LVowDoves$Page;", Cond.methodLink RX5 62 yX4_scan, Cond.instanceMethod yX4_scan, Cond.selects RX4 yX4_scan yX4_scan, Cond.initialized RX4, Cond.code yX4_scan cX4_scan 2 (some .int), Cond.fieldLink RX4 15 "VowDoves$Page" "vowsBegin" "I", Cond.fieldLink RX4 19 "VowDoves$Page" "size" "I", Cond.methodLink RX4 22 yX4_fits, Cond.instanceMethod yX4_fits, Cond.selects RX4 yX4_fits yX4_fits, Cond.code yX4_fits cX4_fits 3 (some .boolean), Cond.fieldLink RX4 9 "VowDoves$Page" "letters" "[I", Cond.methodLink RX4 30 yX4_isDigit, Cond.static yX4_isDigit, Cond.code yX4_isDigit cX4_isDigit 1 (some .boolean), Cond.methodLink RX4 35 yJ0_indexOf_0f7a4, Cond.instanceMethod yJ0_indexOf_0f7a4, Cond.selects RJ0 yJ0_indexOf_0f7a4 yJ0_indexOf_0f7a4, Cond.initialized RJ0, Cond.code yJ0_indexOf_0f7a4 cJ0_indexOf_0f7a4 2 (some .int), Cond.methodLink RJ0 633 yJ0_indexOf_7cf53, Cond.instanceMethod yJ0_indexOf_7cf53, Cond.selects RJ0 yJ0_indexOf_7cf53 yJ0_indexOf_7cf53]
def wsX5_fault_r2 : List Cond := [Cond.code yJ0_indexOf_7cf53 cJ0_indexOf_7cf53 3 (some .int), Cond.fieldLink RJ0 9 "java/lang/String" "value" "[B", Cond.methodLink RJ0 492 yJ0_isLatin1_aae02, Cond.instanceMethod yJ0_isLatin1_aae02, Cond.selects RJ0 yJ0_isLatin1_aae02 yJ0_isLatin1_aae02, Cond.code yJ0_isLatin1_aae02 cJ0_isLatin1_aae02 1 (some .boolean), Cond.fieldLink RJ0 38 "java/lang/String" "COMPACT_STRINGS" "Z", Cond.fieldLink RJ0 15 "java/lang/String" "coder" "B", Cond.methodLink RJ0 505 yJ0_length_8abf5, Cond.instanceMethod yJ0_length_8abf5, Cond.selects RJ0 yJ0_length_8abf5 yJ0_length_8abf5, Cond.code yJ0_length_8abf5 cJ0_length_8abf5 1 (some .int), Cond.methodLink RJ0 335 yJ0_coder_7d493, Cond.instanceMethod yJ0_coder_7d493, Cond.selects RJ0 yJ0_coder_7d493 yJ0_coder_7d493, Cond.code yJ0_coder_7d493 cJ0_coder_7d493 1 (some .byte), Cond.methodLink RJ0 637 yJ1_indexOf_4cfef, Cond.static yJ1_indexOf_4cfef, Cond.initialized RJ1, Cond.code yJ1_indexOf_4cfef cJ1_indexOf_4cfef 4 (some .int), Cond.methodLink RJ1 92 Lib.Math.max.name, Cond.static Lib.Math.max.name, Cond.initialized "java/lang/Math", Cond.code Lib.Math.max.name Lib.Math.max.code 2 (some .int)]
def wsX5_fault_r3 : List Cond := [Cond.methodLink RJ1 38 Lib.Math.min.name, Cond.static Lib.Math.min.name, Cond.code Lib.Math.min.name Lib.Math.min.code 2 (some .int), Cond.methodLink RJ1 88 yJ1_canEncode_9a6ad, Cond.static yJ1_canEncode_9a6ad, Cond.code yJ1_canEncode_9a6ad cJ1_canEncode_9a6ad 1 (some .boolean), Cond.methodLink RJ1 95 yJ1_indexOfChar_4cfef, Cond.static yJ1_indexOfChar_4cfef, Cond.code yJ1_indexOfChar_4cfef cJ1_indexOfChar_4cfef 6 (some .int), Cond.methodLink RJ0 640 yJ2_indexOf_4cfef, Cond.static yJ2_indexOf_4cfef, Cond.initialized RJ2, Cond.code yJ2_indexOf_4cfef cJ2_indexOf_4cfef 4 (some .int), Cond.methodLink RJ2 224 Lib.Math.max.name, Cond.methodLink RJ2 183 Lib.Math.min.name, Cond.constant RJ2 227 (65536), Cond.methodLink RJ2 228 yJ2_indexOfChar_4cfef, Cond.static yJ2_indexOfChar_4cfef, Cond.code yJ2_indexOfChar_4cfef cJ2_indexOfChar_4cfef 4 (some .int), Cond.methodLink RJ2 96 yJ2_checkBoundsBeginEnd_d044e, Cond.static yJ2_checkBoundsBeginEnd_d044e, Cond.code yJ2_checkBoundsBeginEnd_d044e cJ2_checkBoundsBeginEnd_d044e 3 none, Cond.methodLink RJ2 48 yJ2_length_9d52b, Cond.static yJ2_length_9d52b]
def wsX5_fault_r4 : List Cond := [Cond.code yJ2_length_9d52b cJ2_length_9d52b 1 (some .int), Cond.methodLink RJ2 241 yJ0_checkBoundsBeginEnd_23922, Cond.static yJ0_checkBoundsBeginEnd_23922, Cond.code yJ0_checkBoundsBeginEnd_23922 cJ0_checkBoundsBeginEnd_23922 3 none, Cond.fieldLink RJ0 1053 "jdk/internal/util/Preconditions" "SIOOBE_FORMATTER" "Ljava/util/function/BiFunction;", Cond.methodLink RJ0 1062 yJ3_checkFromToIndex_8c36e, Cond.static yJ3_checkFromToIndex_8c36e, Cond.initialized RJ3, Cond.code yJ3_checkFromToIndex_8c36e cJ3_checkFromToIndex_8c36e 4 (some .int), Cond.methodLink RJ2 244 yJ2_indexOfCharUnsafe_4cfef, Cond.static yJ2_indexOfCharUnsafe_4cfef, Cond.code yJ2_indexOfCharUnsafe_4cfef cJ2_indexOfCharUnsafe_4cfef 5 (some .int), Cond.methodLink RJ2 71 yJ2_getChar_3b067, Cond.static yJ2_getChar_3b067, Cond.code yJ2_getChar_3b067 cJ2_getChar_3b067 2 (some .char), Cond.fieldLink RJ2 44 "java/lang/StringUTF16" "$assertionsDisabled" "Z", Cond.fieldLink RJ2 59 "java/lang/StringUTF16" "HI_BYTE_SHIFT" "I", Cond.fieldLink RJ2 63 "java/lang/StringUTF16" "LO_BYTE_SHIFT" "I", Cond.methodLink RJ2 232 yJ2_indexOfSupplementary_4cfef, Cond.static yJ2_indexOfSupplementary_4cfef, Cond.code yJ2_indexOfSupplementary_4cfef cJ2_indexOfSupplementary_4cfef 7 (some .int), Cond.methodLink RJ2 164 yJ11_isValidCodePoint_9a6ad, Cond.static yJ11_isValidCodePoint_9a6ad, Cond.initialized RJ11]
def wsX5_fault_r5 : List Cond := [Cond.code yJ11_isValidCodePoint_9a6ad cJ11_isValidCodePoint_9a6ad 2 (some .boolean), Cond.methodLink RJ2 157 yJ11_highSurrogate_5068e, Cond.static yJ11_highSurrogate_5068e, Cond.code yJ11_highSurrogate_5068e cJ11_highSurrogate_5068e 1 (some .char), Cond.constant RJ11 110 (55232), Cond.methodLink RJ2 161 yJ11_lowSurrogate_5068e, Cond.static yJ11_lowSurrogate_5068e, Cond.code yJ11_lowSurrogate_5068e cJ11_lowSurrogate_5068e 1 (some .char), Cond.constant RJ11 76 (56320), Cond.methodLink RX4 41 yX4_endsKeeper, Cond.instanceMethod yX4_endsKeeper, Cond.selects RX4 yX4_endsKeeper yX4_endsKeeper, Cond.code yX4_endsKeeper cX4_endsKeeper 4 (some .boolean)]
def wsX5_fault : List Cond := .code yX5_fault cX5_fault 1 (some .int) :: ((wsX5_fault_r1 ++ (wsX5_fault_r2 ++ (wsX5_fault_r3 ++ (wsX5_fault_r4 ++ wsX5_fault_r5)))) ++ wsX50 ++ wsX40)
def wsX5_tower_r1 : List Cond := [Cond.fieldLink RX5 10 "VowDoves" "page" "LVowDoves$Page;", Cond.fieldLink RX5 19 "VowDoves" "cote" "LVowDoves$Cote;", Cond.fieldLink RX5 26 "VowDoves" "book" "LVowDoves$Book;", Cond.fieldLink RX5 47 "VowDoves" "isImageKept" "Z", Cond.fieldLink RX5 51 "VowDoves" "towersRead" "I", Cond.fieldLink RX5 55 "VowDoves$Page" "size" "I", Cond.fieldLink RX5 77 "VowDoves$Cote" "holes" "I", Cond.methodLink RX5 66 yX4_isTower, Cond.instanceMethod yX4_isTower, Cond.selects RX4 yX4_isTower yX4_isTower, Cond.initialized RX4, Cond.code yX4_isTower cX4_isTower 1 (some .boolean), Cond.fieldLink RX4 19 "VowDoves$Page" "size" "I", Cond.fieldLink RX4 15 "VowDoves$Page" "vowsBegin" "I", Cond.methodLink RX4 26 yX4_scan, Cond.instanceMethod yX4_scan, Cond.selects RX4 yX4_scan yX4_scan, Cond.code yX4_scan cX4_scan 2 (some .int), Cond.methodLink RX4 22 yX4_fits, Cond.instanceMethod yX4_fits, Cond.selects RX4 yX4_fits yX4_fits, Cond.code yX4_fits cX4_fits 3 (some .boolean), Cond.fieldLink RX4 9 "VowDoves$Page" "letters" "[I", Cond.methodLink RX4 30 yX4_isDigit]
def wsX5_tower_r2 : List Cond := [Cond.static yX4_isDigit, Cond.code yX4_isDigit cX4_isDigit 1 (some .boolean), Cond.methodLink RX4 35 yJ0_indexOf_0f7a4, Cond.instanceMethod yJ0_indexOf_0f7a4, Cond.selects RJ0 yJ0_indexOf_0f7a4 yJ0_indexOf_0f7a4, Cond.initialized RJ0, Cond.code yJ0_indexOf_0f7a4 cJ0_indexOf_0f7a4 2 (some .int), Cond.methodLink RJ0 633 yJ0_indexOf_7cf53, Cond.instanceMethod yJ0_indexOf_7cf53, Cond.selects RJ0 yJ0_indexOf_7cf53 yJ0_indexOf_7cf53, Cond.code yJ0_indexOf_7cf53 cJ0_indexOf_7cf53 3 (some .int), Cond.fieldLink RJ0 9 "java/lang/String" "value" "[B", Cond.methodLink RJ0 492 yJ0_isLatin1_aae02, Cond.instanceMethod yJ0_isLatin1_aae02, Cond.selects RJ0 yJ0_isLatin1_aae02 yJ0_isLatin1_aae02, Cond.code yJ0_isLatin1_aae02 cJ0_isLatin1_aae02 1 (some .boolean), Cond.fieldLink RJ0 38 "java/lang/String" "COMPACT_STRINGS" "Z", Cond.fieldLink RJ0 15 "java/lang/String" "coder" "B", Cond.methodLink RJ0 505 yJ0_length_8abf5, Cond.instanceMethod yJ0_length_8abf5, Cond.selects RJ0 yJ0_length_8abf5 yJ0_length_8abf5, Cond.code yJ0_length_8abf5 cJ0_length_8abf5 1 (some .int), Cond.methodLink RJ0 335 yJ0_coder_7d493, Cond.instanceMethod yJ0_coder_7d493]
def wsX5_tower_r3 : List Cond := [Cond.selects RJ0 yJ0_coder_7d493 yJ0_coder_7d493, Cond.code yJ0_coder_7d493 cJ0_coder_7d493 1 (some .byte), Cond.methodLink RJ0 637 yJ1_indexOf_4cfef, Cond.static yJ1_indexOf_4cfef, Cond.initialized RJ1, Cond.code yJ1_indexOf_4cfef cJ1_indexOf_4cfef 4 (some .int), Cond.methodLink RJ1 92 Lib.Math.max.name, Cond.static Lib.Math.max.name, Cond.initialized "java/lang/Math", Cond.code Lib.Math.max.name Lib.Math.max.code 2 (some .int), Cond.methodLink RJ1 38 Lib.Math.min.name, Cond.static Lib.Math.min.name, Cond.code Lib.Math.min.name Lib.Math.min.code 2 (some .int), Cond.methodLink RJ1 88 yJ1_canEncode_9a6ad, Cond.static yJ1_canEncode_9a6ad, Cond.code yJ1_canEncode_9a6ad cJ1_canEncode_9a6ad 1 (some .boolean), Cond.methodLink RJ1 95 yJ1_indexOfChar_4cfef, Cond.static yJ1_indexOfChar_4cfef, Cond.code yJ1_indexOfChar_4cfef cJ1_indexOfChar_4cfef 6 (some .int), Cond.methodLink RJ0 640 yJ2_indexOf_4cfef, Cond.static yJ2_indexOf_4cfef, Cond.initialized RJ2, Cond.code yJ2_indexOf_4cfef cJ2_indexOf_4cfef 4 (some .int), Cond.methodLink RJ2 224 Lib.Math.max.name]
def wsX5_tower_r4 : List Cond := [Cond.methodLink RJ2 183 Lib.Math.min.name, Cond.constant RJ2 227 (65536), Cond.methodLink RJ2 228 yJ2_indexOfChar_4cfef, Cond.static yJ2_indexOfChar_4cfef, Cond.code yJ2_indexOfChar_4cfef cJ2_indexOfChar_4cfef 4 (some .int), Cond.methodLink RJ2 96 yJ2_checkBoundsBeginEnd_d044e, Cond.static yJ2_checkBoundsBeginEnd_d044e, Cond.code yJ2_checkBoundsBeginEnd_d044e cJ2_checkBoundsBeginEnd_d044e 3 none, Cond.methodLink RJ2 48 yJ2_length_9d52b, Cond.static yJ2_length_9d52b, Cond.code yJ2_length_9d52b cJ2_length_9d52b 1 (some .int), Cond.methodLink RJ2 241 yJ0_checkBoundsBeginEnd_23922, Cond.static yJ0_checkBoundsBeginEnd_23922, Cond.code yJ0_checkBoundsBeginEnd_23922 cJ0_checkBoundsBeginEnd_23922 3 none, Cond.fieldLink RJ0 1053 "jdk/internal/util/Preconditions" "SIOOBE_FORMATTER" "Ljava/util/function/BiFunction;", Cond.methodLink RJ0 1062 yJ3_checkFromToIndex_8c36e, Cond.static yJ3_checkFromToIndex_8c36e, Cond.initialized RJ3, Cond.code yJ3_checkFromToIndex_8c36e cJ3_checkFromToIndex_8c36e 4 (some .int), Cond.methodLink RJ2 244 yJ2_indexOfCharUnsafe_4cfef, Cond.static yJ2_indexOfCharUnsafe_4cfef, Cond.code yJ2_indexOfCharUnsafe_4cfef cJ2_indexOfCharUnsafe_4cfef 5 (some .int), Cond.methodLink RJ2 71 yJ2_getChar_3b067, Cond.static yJ2_getChar_3b067]
def wsX5_tower_r5 : List Cond := [Cond.code yJ2_getChar_3b067 cJ2_getChar_3b067 2 (some .char), Cond.fieldLink RJ2 44 "java/lang/StringUTF16" "$assertionsDisabled" "Z", Cond.fieldLink RJ2 59 "java/lang/StringUTF16" "HI_BYTE_SHIFT" "I", Cond.fieldLink RJ2 63 "java/lang/StringUTF16" "LO_BYTE_SHIFT" "I", Cond.methodLink RJ2 232 yJ2_indexOfSupplementary_4cfef, Cond.static yJ2_indexOfSupplementary_4cfef, Cond.code yJ2_indexOfSupplementary_4cfef cJ2_indexOfSupplementary_4cfef 7 (some .int), Cond.methodLink RJ2 164 yJ11_isValidCodePoint_9a6ad, Cond.static yJ11_isValidCodePoint_9a6ad, Cond.initialized RJ11, Cond.code yJ11_isValidCodePoint_9a6ad cJ11_isValidCodePoint_9a6ad 2 (some .boolean), Cond.methodLink RJ2 157 yJ11_highSurrogate_5068e, Cond.static yJ11_highSurrogate_5068e, Cond.code yJ11_highSurrogate_5068e cJ11_highSurrogate_5068e 1 (some .char), Cond.constant RJ11 110 (55232), Cond.methodLink RJ2 161 yJ11_lowSurrogate_5068e, Cond.static yJ11_lowSurrogate_5068e, Cond.code yJ11_lowSurrogate_5068e cJ11_lowSurrogate_5068e 1 (some .char), Cond.constant RJ11 76 (56320), Cond.methodLink RX4 41 yX4_endsKeeper, Cond.instanceMethod yX4_endsKeeper, Cond.selects RX4 yX4_endsKeeper yX4_endsKeeper, Cond.code yX4_endsKeeper cX4_endsKeeper 4 (some .boolean), Cond.methodLink RX5 70 yX2_readFrom]
def wsX5_tower_r6 : List Cond := [Cond.instanceMethod yX2_readFrom, Cond.selects RX2 yX2_readFrom yX2_readFrom, Cond.initialized RX2, Cond.code yX2_readFrom cX2_readFrom 3 none, Cond.fieldLink RX2 21 "VowDoves$Page" "vowsBegin" "I", Cond.methodLink RX2 27 Lib.Math.min.name, Cond.fieldLink RX2 33 "VowDoves$Cote" "keepers" "I", Cond.fieldLink RX2 36 "VowDoves$Page" "size" "I", Cond.fieldLink RX2 39 "VowDoves$Cote" "holes" "I", Cond.fieldLink RX2 9 "VowDoves$Cote" "kinds" "[I", Cond.fieldLink RX2 44 "VowDoves$Page" "letters" "[I", Cond.fieldLink RX2 15 "VowDoves$Cote" "faiths" "[I", Cond.fieldLink RX2 18 "VowDoves$Cote" "hards" "[I", Cond.methodLink RX2 47 yJ0_indexOf_0f7a4, Cond.methodLink RX5 74 yX0_clear, Cond.instanceMethod yX0_clear, Cond.selects RX0 yX0_clear yX0_clear, Cond.initialized RX0, Cond.code yX0_clear cX0_clear 2 none, Cond.fieldLink RX0 21 "VowDoves$Book" "broken" "[I", Cond.fieldLink RX0 44 "VowDoves$Book" "seen" "I", Cond.fieldLink RX0 48 "VowDoves$Book" "years" "I", Cond.methodLink RX0 40 yX0_empty, Cond.instanceMethod yX0_empty]
def wsX5_tower_r7 : List Cond := [Cond.selects RX0 yX0_empty yX0_empty, Cond.code yX0_empty cX0_empty 3 none, Cond.fieldLink RX0 9 "VowDoves$Book" "letTo" "[I", Cond.fieldLink RX0 15 "VowDoves$Book" "birds" "[I", Cond.fieldLink RX0 18 "VowDoves$Book" "eggs" "[I", Cond.methodLink RX0 34 yJ7_fill_53178, Cond.static yJ7_fill_53178, Cond.initialized RJ7, Cond.code yJ7_fill_53178 cJ7_fill_53178 4 none]
def wsX5_tower : List Cond := .code yX5_tower cX5_tower 1 (some .int) :: ((wsX5_tower_r1 ++ (wsX5_tower_r2 ++ (wsX5_tower_r3 ++ (wsX5_tower_r4 ++ (wsX5_tower_r5 ++ (wsX5_tower_r6 ++ wsX5_tower_r7)))))) ++ wsX50 ++ wsX40 ++ wsX20 ++ wsX00)
def wsX5_likelihood : List Cond := .code yX5_likelihood cX5_likelihood 7 (some .long) :: ([.fieldLink RX5 26 "VowDoves" "book" "LVowDoves$Book;", .fieldLink RX5 170 "VowDoves$Book" "seen" "I", .fieldLink RX5 173 "VowDoves$Book" "seenKeepers" "[I", .fieldLink RX5 19 "VowDoves" "cote" "LVowDoves$Cote;", .fieldLink RX5 84 "VowDoves$Cote" "kinds" "[I", .fieldLink RX5 176 "VowDoves$Book" "seenHards" "[I", .fieldLink RX5 179 "VowDoves$Book" "seenKept" "[Z", .methodLink RX5 244 yX5_yearsKeptBy, .static yX5_yearsKeptBy, .initialized RX5, .code yX5_yearsKeptBy cX5_yearsKeptBy 6 (some .int), .methodLink RX5 248 Lib.Math.min.name, .static Lib.Math.min.name, .initialized "java/lang/Math", .code Lib.Math.min.name Lib.Math.min.code 2 (some .int), .methodLink RX5 253 Lib.Math.max.name, .static Lib.Math.max.name, .code Lib.Math.max.name Lib.Math.max.code 2 (some .int), .methodLink RX5 106 yX5_isOfKind, .static yX5_isOfKind, .code yX5_isOfKind cX5_isOfKind 2 (some .boolean)] ++ wsX50 ++ wsX00 ++ wsX20)
def wsX5_possibleFaiths_r1 : List Cond := [Cond.methodLink RX5 241 yX5_likelihood, Cond.instanceMethod yX5_likelihood, Cond.selects RX5 yX5_likelihood yX5_likelihood, Cond.initialized RX5, Cond.code yX5_likelihood cX5_likelihood 7 (some .long), Cond.fieldLink RX5 26 "VowDoves" "book" "LVowDoves$Book;", Cond.fieldLink RX5 170 "VowDoves$Book" "seen" "I", Cond.fieldLink RX5 173 "VowDoves$Book" "seenKeepers" "[I", Cond.fieldLink RX5 19 "VowDoves" "cote" "LVowDoves$Cote;", Cond.fieldLink RX5 84 "VowDoves$Cote" "kinds" "[I", Cond.fieldLink RX5 176 "VowDoves$Book" "seenHards" "[I", Cond.fieldLink RX5 179 "VowDoves$Book" "seenKept" "[Z", Cond.methodLink RX5 244 yX5_yearsKeptBy, Cond.static yX5_yearsKeptBy, Cond.code yX5_yearsKeptBy cX5_yearsKeptBy 6 (some .int), Cond.methodLink RX5 248 Lib.Math.min.name, Cond.static Lib.Math.min.name, Cond.initialized "java/lang/Math", Cond.code Lib.Math.min.name Lib.Math.min.code 2 (some .int), Cond.methodLink RX5 253 Lib.Math.max.name, Cond.static Lib.Math.max.name, Cond.code Lib.Math.max.name Lib.Math.max.code 2 (some .int), Cond.methodLink RX5 106 yX5_isOfKind, Cond.static yX5_isOfKind]
def wsX5_possibleFaiths_r2 : List Cond := [Cond.code yX5_isOfKind cX5_isOfKind 2 (some .boolean)]
def wsX5_possibleFaiths : List Cond := .code yX5_possibleFaiths cX5_possibleFaiths 4 (some .int) :: ((wsX5_possibleFaiths_r1 ++ wsX5_possibleFaiths_r2) ++ wsX50 ++ wsX00 ++ wsX20)
def wsX5_likelyFaith_r1 : List Cond := [Cond.methodLink RX5 241 yX5_likelihood, Cond.instanceMethod yX5_likelihood, Cond.selects RX5 yX5_likelihood yX5_likelihood, Cond.initialized RX5, Cond.code yX5_likelihood cX5_likelihood 7 (some .long), Cond.fieldLink RX5 26 "VowDoves" "book" "LVowDoves$Book;", Cond.fieldLink RX5 170 "VowDoves$Book" "seen" "I", Cond.fieldLink RX5 173 "VowDoves$Book" "seenKeepers" "[I", Cond.fieldLink RX5 19 "VowDoves" "cote" "LVowDoves$Cote;", Cond.fieldLink RX5 84 "VowDoves$Cote" "kinds" "[I", Cond.fieldLink RX5 176 "VowDoves$Book" "seenHards" "[I", Cond.fieldLink RX5 179 "VowDoves$Book" "seenKept" "[Z", Cond.methodLink RX5 244 yX5_yearsKeptBy, Cond.static yX5_yearsKeptBy, Cond.code yX5_yearsKeptBy cX5_yearsKeptBy 6 (some .int), Cond.methodLink RX5 248 Lib.Math.min.name, Cond.static Lib.Math.min.name, Cond.initialized "java/lang/Math", Cond.code Lib.Math.min.name Lib.Math.min.code 2 (some .int), Cond.methodLink RX5 253 Lib.Math.max.name, Cond.static Lib.Math.max.name, Cond.code Lib.Math.max.name Lib.Math.max.code 2 (some .int), Cond.methodLink RX5 106 yX5_isOfKind, Cond.static yX5_isOfKind]
def wsX5_likelyFaith_r2 : List Cond := [Cond.code yX5_isOfKind cX5_isOfKind 2 (some .boolean)]
def wsX5_likelyFaith : List Cond := .code yX5_likelyFaith cX5_likelyFaith 8 (some .int) :: ((wsX5_likelyFaith_r1 ++ wsX5_likelyFaith_r2) ++ wsX50 ++ wsX00 ++ wsX20)
def wsX5_keeper_r1 : List Cond := [Cond.fieldLink RX5 19 "VowDoves" "cote" "LVowDoves$Cote;", Cond.fieldLink RX5 84 "VowDoves$Cote" "kinds" "[I", Cond.fieldLink RX5 87 "VowDoves$Cote" "faiths" "[I", Cond.fieldLink RX5 26 "VowDoves" "book" "LVowDoves$Book;", Cond.fieldLink RX5 97 "VowDoves$Book" "broken" "[I", Cond.methodLink RX5 80 yX2_hasKeeper, Cond.instanceMethod yX2_hasKeeper, Cond.selects RX2 yX2_hasKeeper yX2_hasKeeper, Cond.initialized RX2, Cond.code yX2_hasKeeper cX2_hasKeeper 2 (some .boolean), Cond.fieldLink RX2 33 "VowDoves$Cote" "keepers" "I", Cond.methodLink RX5 90 yX0_holesOf, Cond.instanceMethod yX0_holesOf, Cond.selects RX0 yX0_holesOf yX0_holesOf, Cond.initialized RX0, Cond.code yX0_holesOf cX0_holesOf 4 (some .int), Cond.fieldLink RX0 9 "VowDoves$Book" "letTo" "[I", Cond.methodLink RX5 94 yX0_eggsOf, Cond.instanceMethod yX0_eggsOf, Cond.selects RX0 yX0_eggsOf yX0_eggsOf, Cond.code yX0_eggsOf cX0_eggsOf 4 (some .int), Cond.fieldLink RX0 18 "VowDoves$Book" "eggs" "[I", Cond.methodLink RX5 100 yX5_possibleFaiths, Cond.instanceMethod yX5_possibleFaiths]
def wsX5_keeper_r2 : List Cond := [Cond.selects RX5 yX5_possibleFaiths yX5_possibleFaiths, Cond.initialized RX5, Cond.code yX5_possibleFaiths cX5_possibleFaiths 4 (some .int), Cond.methodLink RX5 241 yX5_likelihood, Cond.instanceMethod yX5_likelihood, Cond.selects RX5 yX5_likelihood yX5_likelihood, Cond.code yX5_likelihood cX5_likelihood 7 (some .long), Cond.fieldLink RX5 170 "VowDoves$Book" "seen" "I", Cond.fieldLink RX5 173 "VowDoves$Book" "seenKeepers" "[I", Cond.fieldLink RX5 176 "VowDoves$Book" "seenHards" "[I", Cond.fieldLink RX5 179 "VowDoves$Book" "seenKept" "[Z", Cond.methodLink RX5 244 yX5_yearsKeptBy, Cond.static yX5_yearsKeptBy, Cond.code yX5_yearsKeptBy cX5_yearsKeptBy 6 (some .int), Cond.methodLink RX5 248 Lib.Math.min.name, Cond.static Lib.Math.min.name, Cond.initialized "java/lang/Math", Cond.code Lib.Math.min.name Lib.Math.min.code 2 (some .int), Cond.methodLink RX5 253 Lib.Math.max.name, Cond.static Lib.Math.max.name, Cond.code Lib.Math.max.name Lib.Math.max.code 2 (some .int), Cond.methodLink RX5 106 yX5_isOfKind, Cond.static yX5_isOfKind, Cond.code yX5_isOfKind cX5_isOfKind 2 (some .boolean)]
def wsX5_keeper_r3 : List Cond := [Cond.methodLink RX5 103 yX5_likelyFaith, Cond.instanceMethod yX5_likelyFaith, Cond.selects RX5 yX5_likelyFaith yX5_likelyFaith, Cond.code yX5_likelyFaith cX5_likelyFaith 8 (some .int)]
def wsX5_keeper : List Cond := .code yX5_keeper cX5_keeper 3 (some .int) :: ((wsX5_keeper_r1 ++ (wsX5_keeper_r2 ++ wsX5_keeper_r3)) ++ wsX50 ++ wsX20 ++ wsX00)
def wsX5_as : List Cond := .code yX5_as cX5_as 3 (some .int) :: ([.fieldLink RX5 19 "VowDoves" "cote" "LVowDoves$Cote;", .fieldLink RX5 84 "VowDoves$Cote" "kinds" "[I", .methodLink RX5 80 yX2_hasKeeper, .instanceMethod yX2_hasKeeper, .selects RX2 yX2_hasKeeper yX2_hasKeeper, .initialized RX2, .code yX2_hasKeeper cX2_hasKeeper 2 (some .boolean), .fieldLink RX2 33 "VowDoves$Cote" "keepers" "I", .methodLink RX5 106 yX5_isOfKind, .static yX5_isOfKind, .initialized RX5, .code yX5_isOfKind cX5_isOfKind 2 (some .boolean)] ++ wsX50 ++ wsX20)
def wsX5_keeps_r1 : List Cond := [Cond.fieldLink RX5 19 "VowDoves" "cote" "LVowDoves$Cote;", Cond.methodLink RX5 80 yX2_hasKeeper, Cond.instanceMethod yX2_hasKeeper, Cond.selects RX2 yX2_hasKeeper yX2_hasKeeper, Cond.initialized RX2, Cond.code yX2_hasKeeper cX2_hasKeeper 2 (some .boolean), Cond.fieldLink RX2 33 "VowDoves$Cote" "keepers" "I", Cond.methodLink RX5 110 yX2_yearsKept, Cond.instanceMethod yX2_yearsKept, Cond.selects RX2 yX2_yearsKept yX2_yearsKept, Cond.code yX2_yearsKept cX2_yearsKept 3 (some .int), Cond.fieldLink RX2 9 "VowDoves$Cote" "kinds" "[I", Cond.fieldLink RX2 15 "VowDoves$Cote" "faiths" "[I", Cond.methodLink RX2 53 yX2_hasKeeper, Cond.static yX5_yearsKeptBy, Cond.initialized RX5, Cond.code yX5_yearsKeptBy cX5_yearsKeptBy 6 (some .int), Cond.methodLink RX5 248 Lib.Math.min.name, Cond.static Lib.Math.min.name, Cond.initialized "java/lang/Math", Cond.code Lib.Math.min.name Lib.Math.min.code 2 (some .int), Cond.methodLink RX5 253 Lib.Math.max.name, Cond.static Lib.Math.max.name, Cond.code Lib.Math.max.name Lib.Math.max.code 2 (some .int)]
def wsX5_keeps_r2 : List Cond := [Cond.methodLink RX5 106 yX5_isOfKind, Cond.static yX5_isOfKind, Cond.code yX5_isOfKind cX5_isOfKind 2 (some .boolean)]
def wsX5_keeps : List Cond := .code yX5_keeps cX5_keeps 3 (some .int) :: ((wsX5_keeps_r1 ++ wsX5_keeps_r2) ++ wsX50 ++ wsX20)
def wsX5_hole_r1 : List Cond := [Cond.fieldLink RX5 19 "VowDoves" "cote" "LVowDoves$Cote;", Cond.fieldLink RX5 117 "VowDoves$Cote" "hards" "[I", Cond.fieldLink RX5 26 "VowDoves" "book" "LVowDoves$Book;", Cond.fieldLink RX5 120 "VowDoves$Book" "letTo" "[I", Cond.fieldLink RX5 123 "VowDoves$Book" "birds" "[I", Cond.fieldLink RX5 126 "VowDoves$Book" "eggs" "[I", Cond.methodLink RX5 114 yX2_hasHole, Cond.instanceMethod yX2_hasHole, Cond.selects RX2 yX2_hasHole yX2_hasHole, Cond.initialized RX2, Cond.code yX2_hasHole cX2_hasHole 2 (some .boolean), Cond.fieldLink RX2 39 "VowDoves$Cote" "holes" "I", Cond.methodLink RX5 110 yX2_yearsKept, Cond.instanceMethod yX2_yearsKept, Cond.selects RX2 yX2_yearsKept yX2_yearsKept, Cond.code yX2_yearsKept cX2_yearsKept 3 (some .int), Cond.fieldLink RX2 9 "VowDoves$Cote" "kinds" "[I", Cond.fieldLink RX2 15 "VowDoves$Cote" "faiths" "[I", Cond.methodLink RX2 53 yX2_hasKeeper, Cond.instanceMethod yX2_hasKeeper, Cond.selects RX2 yX2_hasKeeper yX2_hasKeeper, Cond.code yX2_hasKeeper cX2_hasKeeper 2 (some .boolean), Cond.fieldLink RX2 33 "VowDoves$Cote" "keepers" "I", Cond.static yX5_yearsKeptBy]
def wsX5_hole_r2 : List Cond := [Cond.initialized RX5, Cond.code yX5_yearsKeptBy cX5_yearsKeptBy 6 (some .int), Cond.methodLink RX5 248 Lib.Math.min.name, Cond.static Lib.Math.min.name, Cond.initialized "java/lang/Math", Cond.code Lib.Math.min.name Lib.Math.min.code 2 (some .int), Cond.methodLink RX5 253 Lib.Math.max.name, Cond.static Lib.Math.max.name, Cond.code Lib.Math.max.name Lib.Math.max.code 2 (some .int), Cond.methodLink RX5 106 yX5_isOfKind, Cond.static yX5_isOfKind, Cond.code yX5_isOfKind cX5_isOfKind 2 (some .boolean)]
def wsX5_hole : List Cond := .code yX5_hole cX5_hole 3 (some .int) :: ((wsX5_hole_r1 ++ wsX5_hole_r2) ++ wsX50 ++ wsX20 ++ wsX00)
def wsX5_let_r1 : List Cond := [Cond.fieldLink RX5 19 "VowDoves" "cote" "LVowDoves$Cote;", Cond.fieldLink RX5 26 "VowDoves" "book" "LVowDoves$Book;", Cond.fieldLink RX5 123 "VowDoves$Book" "birds" "[I", Cond.fieldLink RX5 120 "VowDoves$Book" "letTo" "[I", Cond.methodLink RX5 114 yX2_hasHole, Cond.instanceMethod yX2_hasHole, Cond.selects RX2 yX2_hasHole yX2_hasHole, Cond.initialized RX2, Cond.code yX2_hasHole cX2_hasHole 2 (some .boolean), Cond.fieldLink RX2 39 "VowDoves$Cote" "holes" "I", Cond.methodLink RX5 80 yX2_hasKeeper, Cond.instanceMethod yX2_hasKeeper, Cond.selects RX2 yX2_hasKeeper yX2_hasKeeper, Cond.code yX2_hasKeeper cX2_hasKeeper 2 (some .boolean), Cond.fieldLink RX2 33 "VowDoves$Cote" "keepers" "I", Cond.methodLink RX5 129 yX0_roomOf, Cond.instanceMethod yX0_roomOf, Cond.selects RX0 yX0_roomOf yX0_roomOf, Cond.initialized RX0, Cond.code yX0_roomOf cX0_roomOf 2 (some .int), Cond.methodLink RX0 57 yX0_holesOf, Cond.instanceMethod yX0_holesOf, Cond.selects RX0 yX0_holesOf yX0_holesOf, Cond.code yX0_holesOf cX0_holesOf 4 (some .int)]
def wsX5_let_r2 : List Cond := [Cond.fieldLink RX0 9 "VowDoves$Book" "letTo" "[I", Cond.methodLink RX0 61 yJ6_bitCount_0f7a4, Cond.static yJ6_bitCount_0f7a4, Cond.initialized RJ6, Cond.code yJ6_bitCount_0f7a4 cJ6_bitCount_0f7a4 1 (some .int), Cond.constant RJ6 265 (1431655765), Cond.constant RJ6 266 (858993459), Cond.constant RJ6 267 (252645135), Cond.methodLink RX5 90 yX0_holesOf, Cond.methodLink RX5 132 yJ6_bitCount_0f7a4]
def wsX5_let : List Cond := .code yX5_let cX5_let 3 (some .int) :: ((wsX5_let_r1 ++ wsX5_let_r2) ++ wsX50 ++ wsX00 ++ wsX20)
def wsX5_leave : List Cond := .code yX5_leave cX5_leave 3 (some .int) :: ([.fieldLink RX5 19 "VowDoves" "cote" "LVowDoves$Cote;", .fieldLink RX5 26 "VowDoves" "book" "LVowDoves$Book;", .fieldLink RX5 123 "VowDoves$Book" "birds" "[I", .fieldLink RX5 126 "VowDoves$Book" "eggs" "[I", .methodLink RX5 114 yX2_hasHole, .instanceMethod yX2_hasHole, .selects RX2 yX2_hasHole yX2_hasHole, .initialized RX2, .code yX2_hasHole cX2_hasHole 2 (some .boolean), .fieldLink RX2 39 "VowDoves$Cote" "holes" "I", .methodLink RX5 137 yX0_empty, .instanceMethod yX0_empty, .selects RX0 yX0_empty yX0_empty, .initialized RX0, .code yX0_empty cX0_empty 3 none, .fieldLink RX0 9 "VowDoves$Book" "letTo" "[I", .fieldLink RX0 15 "VowDoves$Book" "birds" "[I", .fieldLink RX0 18 "VowDoves$Book" "eggs" "[I"] ++ wsX50 ++ wsX00 ++ wsX20)
def wsX5_year_r1 : List Cond := [Cond.fieldLink RX5 19 "VowDoves" "cote" "LVowDoves$Cote;", Cond.fieldLink RX5 77 "VowDoves$Cote" "holes" "I", Cond.fieldLink RX5 26 "VowDoves" "book" "LVowDoves$Book;", Cond.fieldLink RX5 144 "VowDoves$Book" "years" "I", Cond.fieldLink RX5 120 "VowDoves$Book" "letTo" "[I", Cond.fieldLink RX5 126 "VowDoves$Book" "eggs" "[I", Cond.fieldLink RX5 97 "VowDoves$Book" "broken" "[I", Cond.methodLink RX5 141 yX2_stands, Cond.instanceMethod yX2_stands, Cond.selects RX2 yX2_stands yX2_stands, Cond.initialized RX2, Cond.code yX2_stands cX2_stands 1 (some .boolean), Cond.fieldLink RX2 33 "VowDoves$Cote" "keepers" "I", Cond.methodLink RX5 80 yX2_hasKeeper, Cond.instanceMethod yX2_hasKeeper, Cond.selects RX2 yX2_hasKeeper yX2_hasKeeper, Cond.code yX2_hasKeeper cX2_hasKeeper 2 (some .boolean), Cond.methodLink RX5 147 yX2_eggsOfAYear, Cond.instanceMethod yX2_eggsOfAYear, Cond.selects RX2 yX2_eggsOfAYear yX2_eggsOfAYear, Cond.code yX2_eggsOfAYear cX2_eggsOfAYear 2 (some .int), Cond.fieldLink RX2 9 "VowDoves$Cote" "kinds" "[I", Cond.methodLink RX2 53 yX2_hasKeeper, Cond.static yX5_isOfKind]
def wsX5_year_r2 : List Cond := [Cond.initialized RX5, Cond.code yX5_isOfKind cX5_isOfKind 2 (some .boolean), Cond.methodLink RX5 137 yX0_empty, Cond.instanceMethod yX0_empty, Cond.selects RX0 yX0_empty yX0_empty, Cond.initialized RX0, Cond.code yX0_empty cX0_empty 3 none, Cond.fieldLink RX0 9 "VowDoves$Book" "letTo" "[I", Cond.fieldLink RX0 15 "VowDoves$Book" "birds" "[I", Cond.fieldLink RX0 18 "VowDoves$Book" "eggs" "[I"]
def wsX5_year : List Cond := .code yX5_year cX5_year 5 (some .int) :: ((wsX5_year_r1 ++ wsX5_year_r2) ++ wsX50 ++ wsX20 ++ wsX00)
def wsX5_forgive : List Cond := .code yX5_forgive cX5_forgive 3 (some .int) :: ([.fieldLink RX5 19 "VowDoves" "cote" "LVowDoves$Cote;", .fieldLink RX5 77 "VowDoves$Cote" "holes" "I", .fieldLink RX5 26 "VowDoves" "book" "LVowDoves$Book;", .fieldLink RX5 123 "VowDoves$Book" "birds" "[I", .methodLink RX5 137 yX0_empty, .instanceMethod yX0_empty, .selects RX0 yX0_empty yX0_empty, .initialized RX0, .code yX0_empty cX0_empty 3 none, .fieldLink RX0 9 "VowDoves$Book" "letTo" "[I", .fieldLink RX0 15 "VowDoves$Book" "birds" "[I", .fieldLink RX0 18 "VowDoves$Book" "eggs" "[I"] ++ wsX50 ++ wsX20 ++ wsX00)
def wsX5_greatestDivisor : List Cond := .code yX5_greatestDivisor cX5_greatestDivisor 11 (some .long) :: ([])
def wsX5_odds_r1 : List Cond := [Cond.constantLong RX5 150 (-102), Cond.fieldLink RX5 19 "VowDoves" "cote" "LVowDoves$Cote;", Cond.constantLong RX5 152 (-103), Cond.fieldLink RX5 77 "VowDoves$Cote" "holes" "I", Cond.fieldLink RX5 26 "VowDoves" "book" "LVowDoves$Book;", Cond.fieldLink RX5 123 "VowDoves$Book" "birds" "[I", Cond.fieldLink RX5 120 "VowDoves$Book" "letTo" "[I", Cond.fieldLink RX5 117 "VowDoves$Cote" "hards" "[I", Cond.constantLong RX5 154 (10), Cond.methodLink RX5 141 yX2_stands, Cond.instanceMethod yX2_stands, Cond.selects RX2 yX2_stands yX2_stands, Cond.initialized RX2, Cond.code yX2_stands cX2_stands 1 (some .boolean), Cond.fieldLink RX2 33 "VowDoves$Cote" "keepers" "I", Cond.methodLink RX5 110 yX2_yearsKept, Cond.instanceMethod yX2_yearsKept, Cond.selects RX2 yX2_yearsKept yX2_yearsKept, Cond.code yX2_yearsKept cX2_yearsKept 3 (some .int), Cond.fieldLink RX2 9 "VowDoves$Cote" "kinds" "[I", Cond.fieldLink RX2 15 "VowDoves$Cote" "faiths" "[I", Cond.methodLink RX2 53 yX2_hasKeeper, Cond.instanceMethod yX2_hasKeeper, Cond.selects RX2 yX2_hasKeeper yX2_hasKeeper]
def wsX5_odds_r2 : List Cond := [Cond.code yX2_hasKeeper cX2_hasKeeper 2 (some .boolean), Cond.static yX5_yearsKeptBy, Cond.initialized RX5, Cond.code yX5_yearsKeptBy cX5_yearsKeptBy 6 (some .int), Cond.methodLink RX5 248 Lib.Math.min.name, Cond.static Lib.Math.min.name, Cond.initialized "java/lang/Math", Cond.code Lib.Math.min.name Lib.Math.min.code 2 (some .int), Cond.methodLink RX5 253 Lib.Math.max.name, Cond.static Lib.Math.max.name, Cond.code Lib.Math.max.name Lib.Math.max.code 2 (some .int), Cond.methodLink RX5 106 yX5_isOfKind, Cond.static yX5_isOfKind, Cond.code yX5_isOfKind cX5_isOfKind 2 (some .boolean), Cond.methodLink RX5 156 yX5_greatestDivisor, Cond.static yX5_greatestDivisor, Cond.code yX5_greatestDivisor cX5_greatestDivisor 11 (some .long)]
def wsX5_odds : List Cond := .code yX5_odds cX5_odds 13 (some .long) :: ((wsX5_odds_r1 ++ wsX5_odds_r2) ++ wsX50 ++ wsX20 ++ wsX00)
def wsX5_match_r1 : List Cond := [Cond.fieldLink RX5 19 "VowDoves" "cote" "LVowDoves$Cote;", Cond.fieldLink RX5 36 "VowDoves" "matching" "LVowDoves$Matching;", Cond.fieldLink RX5 26 "VowDoves" "book" "LVowDoves$Book;", Cond.fieldLink RX5 164 "VowDoves$Matching" "most" "I", Cond.fieldLink RX5 167 "VowDoves$Matching" "best" "[I", Cond.methodLink RX5 141 yX2_stands, Cond.instanceMethod yX2_stands, Cond.selects RX2 yX2_stands yX2_stands, Cond.initialized RX2, Cond.code yX2_stands cX2_stands 1 (some .boolean), Cond.fieldLink RX2 33 "VowDoves$Cote" "keepers" "I", Cond.methodLink RX5 160 yX3_solve, Cond.instanceMethod yX3_solve, Cond.selects RX3 yX3_solve yX3_solve, Cond.initialized RX3, Cond.code yX3_solve cX3_solve 5 none, Cond.fieldLink RX3 20 "VowDoves$Matching" "room" "[I", Cond.fieldLink RX3 44 "VowDoves$Book" "birds" "[I", Cond.fieldLink RX3 16 "VowDoves$Matching" "limit" "[I", Cond.fieldLink RX3 23 "VowDoves$Matching" "tried" "[I", Cond.fieldLink RX3 51 "VowDoves$Matching" "most" "I", Cond.methodLink RX3 29 yX2_hasKeeper, Cond.instanceMethod yX2_hasKeeper, Cond.selects RX2 yX2_hasKeeper yX2_hasKeeper]
def wsX5_match_r2 : List Cond := [Cond.code yX2_hasKeeper cX2_hasKeeper 2 (some .boolean), Cond.methodLink RX3 35 yX0_roomOf, Cond.instanceMethod yX0_roomOf, Cond.selects RX0 yX0_roomOf yX0_roomOf, Cond.initialized RX0, Cond.code yX0_roomOf cX0_roomOf 2 (some .int), Cond.methodLink RX0 57 yX0_holesOf, Cond.instanceMethod yX0_holesOf, Cond.selects RX0 yX0_holesOf yX0_holesOf, Cond.code yX0_holesOf cX0_holesOf 4 (some .int), Cond.fieldLink RX0 9 "VowDoves$Book" "letTo" "[I", Cond.methodLink RX0 61 yJ6_bitCount_0f7a4, Cond.static yJ6_bitCount_0f7a4, Cond.initialized RJ6, Cond.code yJ6_bitCount_0f7a4 cJ6_bitCount_0f7a4 1 (some .int), Cond.constant RJ6 265 (1431655765), Cond.constant RJ6 266 (858993459), Cond.constant RJ6 267 (252645135), Cond.methodLink RX3 41 yX2_hasHole, Cond.instanceMethod yX2_hasHole, Cond.selects RX2 yX2_hasHole yX2_hasHole, Cond.code yX2_hasHole cX2_hasHole 2 (some .boolean), Cond.fieldLink RX2 39 "VowDoves$Cote" "holes" "I", Cond.methodLink RX3 47 yX3_weigh]
def wsX5_match_r3 : List Cond := [Cond.instanceMethod yX3_weigh, Cond.selects RX3 yX3_weigh yX3_weigh, Cond.code yX3_weigh cX3_weigh 6 (some .int), Cond.fieldLink RX3 11 "VowDoves$Matching" "worth" "[[I", Cond.fieldLink RX3 59 "VowDoves$Cote" "hards" "[I", Cond.methodLink RX3 66 Lib.Math.max.name, Cond.static Lib.Math.max.name, Cond.initialized "java/lang/Math", Cond.code Lib.Math.max.name Lib.Math.max.code 2 (some .int), Cond.methodLink RX3 62 yX2_yearsKept, Cond.instanceMethod yX2_yearsKept, Cond.selects RX2 yX2_yearsKept yX2_yearsKept, Cond.code yX2_yearsKept cX2_yearsKept 3 (some .int), Cond.fieldLink RX2 9 "VowDoves$Cote" "kinds" "[I", Cond.fieldLink RX2 15 "VowDoves$Cote" "faiths" "[I", Cond.methodLink RX2 53 yX2_hasKeeper, Cond.static yX5_yearsKeptBy, Cond.initialized RX5, Cond.code yX5_yearsKeptBy cX5_yearsKeptBy 6 (some .int), Cond.methodLink RX5 248 Lib.Math.min.name, Cond.static Lib.Math.min.name, Cond.code Lib.Math.min.name Lib.Math.min.code 2 (some .int), Cond.methodLink RX5 253 Lib.Math.max.name, Cond.methodLink RX5 106 yX5_isOfKind]
def wsX5_match_r4 : List Cond := [Cond.static yX5_isOfKind, Cond.code yX5_isOfKind cX5_isOfKind 2 (some .boolean), Cond.methodLink RX3 55 yX3_search, Cond.static yX3_search, Cond.code yX3_search cX3_search 4 none, Cond.fieldLink RX3 26 "VowDoves$Matching" "best" "[I", Cond.methodLink RX3 71 arraycopyName, Cond.native arraycopyName, Cond.static arraycopyName, Cond.initialized "java/lang/System"]
def wsX5_match : List Cond := .code yX5_match cX5_match 2 (some .int) :: ((wsX5_match_r1 ++ (wsX5_match_r2 ++ (wsX5_match_r3 ++ wsX5_match_r4))) ++ wsX50 ++ wsX30 ++ wsX20 ++ wsX00)
def wsX5_see : List Cond := .code yX5_see cX5_see 4 (some .int) :: ([.fieldLink RX5 19 "VowDoves" "cote" "LVowDoves$Cote;", .fieldLink RX5 26 "VowDoves" "book" "LVowDoves$Book;", .fieldLink RX5 170 "VowDoves$Book" "seen" "I", .fieldLink RX5 173 "VowDoves$Book" "seenKeepers" "[I", .fieldLink RX5 176 "VowDoves$Book" "seenHards" "[I", .fieldLink RX5 179 "VowDoves$Book" "seenKept" "[Z", .methodLink RX5 80 yX2_hasKeeper, .instanceMethod yX2_hasKeeper, .selects RX2 yX2_hasKeeper yX2_hasKeeper, .initialized RX2, .code yX2_hasKeeper cX2_hasKeeper 2 (some .boolean), .fieldLink RX2 33 "VowDoves$Cote" "keepers" "I"] ++ wsX50 ++ wsX00 ++ wsX20)
def wsX5_forget : List Cond := .code yX5_forget cX5_forget 2 (some .int) :: ([.fieldLink RX5 26 "VowDoves" "book" "LVowDoves$Book;", .fieldLink RX5 170 "VowDoves$Book" "seen" "I"] ++ wsX50 ++ wsX00)
def wsX5_centuries_r1 : List Cond := [Cond.fieldLink RX5 19 "VowDoves" "cote" "LVowDoves$Cote;", Cond.fieldLink RX5 43 "VowDoves" "run" "LVowDoves$Centuries;", Cond.fieldLink RX5 26 "VowDoves" "book" "LVowDoves$Book;", Cond.fieldLink RX5 187 "VowDoves$Centuries" "broken" "I", Cond.fieldLink RX5 192 "VowDoves$Centuries" "seed" "J", Cond.methodLink RX5 141 yX2_stands, Cond.instanceMethod yX2_stands, Cond.selects RX2 yX2_stands yX2_stands, Cond.initialized RX2, Cond.code yX2_stands cX2_stands 1 (some .boolean), Cond.fieldLink RX2 33 "VowDoves$Cote" "keepers" "I", Cond.methodLink RX5 183 yX1_pass, Cond.instanceMethod yX1_pass, Cond.selects RX1 yX1_pass yX1_pass, Cond.initialized RX1, Cond.code yX1_pass cX1_pass 7 none, Cond.fieldLink RX1 15 "VowDoves$Book" "eggs" "[I", Cond.fieldLink RX1 9 "VowDoves$Centuries" "eggs" "[I", Cond.methodLink RX1 18 arraycopyName, Cond.native arraycopyName, Cond.static arraycopyName, Cond.initialized "java/lang/System", Cond.fieldLink RX1 24 "VowDoves$Centuries" "broken" "I", Cond.fieldLink RX1 28 "VowDoves$Centuries" "seed" "J"]
def wsX5_centuries_r2 : List Cond := [Cond.fieldLink RX1 32 "VowDoves$Cote" "holes" "I", Cond.fieldLink RX1 37 "VowDoves$Book" "birds" "[I", Cond.fieldLink RX1 40 "VowDoves$Book" "letTo" "[I", Cond.methodLink RX1 43 yX1_passYear, Cond.instanceMethod yX1_passYear, Cond.selects RX1 yX1_passYear yX1_passYear, Cond.code yX1_passYear cX1_passYear 4 none, Cond.fieldLink RX1 55 "VowDoves$Cote" "hards" "[I", Cond.methodLink RX1 51 yX1_drawOfTen, Cond.instanceMethod yX1_drawOfTen, Cond.selects RX1 yX1_drawOfTen yX1_drawOfTen, Cond.code yX1_drawOfTen cX1_drawOfTen 1 (some .long), Cond.constantLong RX1 66 (1103515245), Cond.constantLong RX1 68 (12345), Cond.constantLong RX1 70 (2147483647), Cond.constantLong RX1 72 (65536), Cond.constantLong RX1 74 (10), Cond.methodLink RX1 58 yX2_yearsKept, Cond.instanceMethod yX2_yearsKept, Cond.selects RX2 yX2_yearsKept yX2_yearsKept, Cond.code yX2_yearsKept cX2_yearsKept 3 (some .int), Cond.fieldLink RX2 9 "VowDoves$Cote" "kinds" "[I", Cond.fieldLink RX2 15 "VowDoves$Cote" "faiths" "[I", Cond.methodLink RX2 53 yX2_hasKeeper]
def wsX5_centuries_r3 : List Cond := [Cond.instanceMethod yX2_hasKeeper, Cond.selects RX2 yX2_hasKeeper yX2_hasKeeper, Cond.code yX2_hasKeeper cX2_hasKeeper 2 (some .boolean), Cond.static yX5_yearsKeptBy, Cond.initialized RX5, Cond.code yX5_yearsKeptBy cX5_yearsKeptBy 6 (some .int), Cond.methodLink RX5 248 Lib.Math.min.name, Cond.static Lib.Math.min.name, Cond.initialized "java/lang/Math", Cond.code Lib.Math.min.name Lib.Math.min.code 2 (some .int), Cond.methodLink RX5 253 Lib.Math.max.name, Cond.static Lib.Math.max.name, Cond.code Lib.Math.max.name Lib.Math.max.code 2 (some .int), Cond.methodLink RX5 106 yX5_isOfKind, Cond.static yX5_isOfKind, Cond.code yX5_isOfKind cX5_isOfKind 2 (some .boolean), Cond.methodLink RX1 62 yX2_eggsOfAYear, Cond.instanceMethod yX2_eggsOfAYear, Cond.selects RX2 yX2_eggsOfAYear yX2_eggsOfAYear, Cond.code yX2_eggsOfAYear cX2_eggsOfAYear 2 (some .int), Cond.methodLink RX5 189 yX1_allEggs, Cond.instanceMethod yX1_allEggs, Cond.selects RX1 yX1_allEggs yX1_allEggs, Cond.code yX1_allEggs cX1_allEggs 1 (some .int)]
def wsX5_centuries_r4 : List Cond := [Cond.static yX5_sum, Cond.code yX5_sum cX5_sum 6 (some .int)]
def wsX5_centuries : List Cond := .code yX5_centuries cX5_centuries 4 (some .int) :: ((wsX5_centuries_r1 ++ (wsX5_centuries_r2 ++ (wsX5_centuries_r3 ++ wsX5_centuries_r4))) ++ wsX50 ++ wsX10 ++ wsX20 ++ wsX00)
def wsX5_image_r1 : List Cond := [Cond.fieldLink RX5 19 "VowDoves" "cote" "LVowDoves$Cote;", Cond.fieldLink RX5 30 "VowDoves" "keptBook" "LVowDoves$Book;", Cond.fieldLink RX5 26 "VowDoves" "book" "LVowDoves$Book;", Cond.fieldLink RX5 47 "VowDoves" "isImageKept" "Z", Cond.fieldLink RX5 144 "VowDoves$Book" "years" "I", Cond.methodLink RX5 141 yX2_stands, Cond.instanceMethod yX2_stands, Cond.selects RX2 yX2_stands yX2_stands, Cond.initialized RX2, Cond.code yX2_stands cX2_stands 1 (some .boolean), Cond.fieldLink RX2 33 "VowDoves$Cote" "keepers" "I", Cond.methodLink RX5 196 yX0_copyFrom, Cond.instanceMethod yX0_copyFrom, Cond.selects RX0 yX0_copyFrom yX0_copyFrom, Cond.initialized RX0, Cond.code yX0_copyFrom cX0_copyFrom 2 none, Cond.fieldLink RX0 9 "VowDoves$Book" "letTo" "[I", Cond.methodLink RX0 51 arraycopyName, Cond.native arraycopyName, Cond.static arraycopyName, Cond.initialized "java/lang/System", Cond.fieldLink RX0 15 "VowDoves$Book" "birds" "[I", Cond.fieldLink RX0 18 "VowDoves$Book" "eggs" "[I", Cond.fieldLink RX0 21 "VowDoves$Book" "broken" "[I"]
def wsX5_image_r2 : List Cond := [Cond.fieldLink RX0 24 "VowDoves$Book" "seenKeepers" "[I", Cond.fieldLink RX0 27 "VowDoves$Book" "seenHards" "[I", Cond.fieldLink RX0 30 "VowDoves$Book" "seenKept" "[Z", Cond.fieldLink RX0 44 "VowDoves$Book" "seen" "I", Cond.fieldLink RX0 48 "VowDoves$Book" "years" "I"]
def wsX5_image : List Cond := .code yX5_image cX5_image 1 (some .int) :: ((wsX5_image_r1 ++ wsX5_image_r2) ++ wsX50 ++ wsX00 ++ wsX20)
def wsX5_restore : List Cond := .code yX5_restore cX5_restore 1 (some .int) :: ([.fieldLink RX5 47 "VowDoves" "isImageKept" "Z", .fieldLink RX5 26 "VowDoves" "book" "LVowDoves$Book;", .fieldLink RX5 30 "VowDoves" "keptBook" "LVowDoves$Book;", .fieldLink RX5 144 "VowDoves$Book" "years" "I", .methodLink RX5 196 yX0_copyFrom, .instanceMethod yX0_copyFrom, .selects RX0 yX0_copyFrom yX0_copyFrom, .initialized RX0, .code yX0_copyFrom cX0_copyFrom 2 none, .fieldLink RX0 9 "VowDoves$Book" "letTo" "[I", .methodLink RX0 51 arraycopyName, .native arraycopyName, .static arraycopyName, .initialized "java/lang/System", .fieldLink RX0 15 "VowDoves$Book" "birds" "[I", .fieldLink RX0 18 "VowDoves$Book" "eggs" "[I", .fieldLink RX0 21 "VowDoves$Book" "broken" "[I", .fieldLink RX0 24 "VowDoves$Book" "seenKeepers" "[I", .fieldLink RX0 27 "VowDoves$Book" "seenHards" "[I", .fieldLink RX0 30 "VowDoves$Book" "seenKept" "[Z", .fieldLink RX0 44 "VowDoves$Book" "seen" "I", .fieldLink RX0 48 "VowDoves$Book" "years" "I"] ++ wsX50 ++ wsX00)
def wsX5_count : List Cond := .code yX5_count cX5_count 2 (some .int) :: ([.fieldLink RX5 19 "VowDoves" "cote" "LVowDoves$Cote;", .fieldLink RX5 200 "VowDoves$Cote" "keepers" "I", .fieldLink RX5 77 "VowDoves$Cote" "holes" "I", .fieldLink RX5 26 "VowDoves" "book" "LVowDoves$Book;", .fieldLink RX5 126 "VowDoves$Book" "eggs" "[I", .fieldLink RX5 97 "VowDoves$Book" "broken" "[I", .fieldLink RX5 144 "VowDoves$Book" "years" "I", .fieldLink RX5 170 "VowDoves$Book" "seen" "I", .fieldLink RX5 10 "VowDoves" "page" "LVowDoves$Page;", .fieldLink RX5 55 "VowDoves$Page" "size" "I", .fieldLink RX5 51 "VowDoves" "towersRead" "I", .methodLink RX5 203 yX0_holesWith, .instanceMethod yX0_holesWith, .selects RX0 yX0_holesWith yX0_holesWith, .initialized RX0, .code yX0_holesWith cX0_holesWith 7 (some .int), .fieldLink RX0 15 "VowDoves$Book" "birds" "[I", .methodLink RX5 206 yX5_sum, .static yX5_sum, .initialized RX5, .code yX5_sum cX5_sum 6 (some .int)] ++ wsX50 ++ wsX20 ++ wsX00 ++ wsX40)
def wsX5_digestNumber : List Cond := .code yX5_digestNumber cX5_digestNumber 4 (some .long) :: ([.constantLong RX5 239 (31)])
def wsX5_digestKeeper_r1 : List Cond := [Cond.methodLink RX5 229 yX5_keeper, Cond.instanceMethod yX5_keeper, Cond.selects RX5 yX5_keeper yX5_keeper, Cond.initialized RX5, Cond.code yX5_keeper cX5_keeper 3 (some .int), Cond.fieldLink RX5 19 "VowDoves" "cote" "LVowDoves$Cote;", Cond.fieldLink RX5 84 "VowDoves$Cote" "kinds" "[I", Cond.fieldLink RX5 87 "VowDoves$Cote" "faiths" "[I", Cond.fieldLink RX5 26 "VowDoves" "book" "LVowDoves$Book;", Cond.fieldLink RX5 97 "VowDoves$Book" "broken" "[I", Cond.methodLink RX5 80 yX2_hasKeeper, Cond.instanceMethod yX2_hasKeeper, Cond.selects RX2 yX2_hasKeeper yX2_hasKeeper, Cond.initialized RX2, Cond.code yX2_hasKeeper cX2_hasKeeper 2 (some .boolean), Cond.fieldLink RX2 33 "VowDoves$Cote" "keepers" "I", Cond.methodLink RX5 90 yX0_holesOf, Cond.instanceMethod yX0_holesOf, Cond.selects RX0 yX0_holesOf yX0_holesOf, Cond.initialized RX0, Cond.code yX0_holesOf cX0_holesOf 4 (some .int), Cond.fieldLink RX0 9 "VowDoves$Book" "letTo" "[I", Cond.methodLink RX5 94 yX0_eggsOf, Cond.instanceMethod yX0_eggsOf]
def wsX5_digestKeeper_r2 : List Cond := [Cond.selects RX0 yX0_eggsOf yX0_eggsOf, Cond.code yX0_eggsOf cX0_eggsOf 4 (some .int), Cond.fieldLink RX0 18 "VowDoves$Book" "eggs" "[I", Cond.methodLink RX5 100 yX5_possibleFaiths, Cond.instanceMethod yX5_possibleFaiths, Cond.selects RX5 yX5_possibleFaiths yX5_possibleFaiths, Cond.code yX5_possibleFaiths cX5_possibleFaiths 4 (some .int), Cond.methodLink RX5 241 yX5_likelihood, Cond.instanceMethod yX5_likelihood, Cond.selects RX5 yX5_likelihood yX5_likelihood, Cond.code yX5_likelihood cX5_likelihood 7 (some .long), Cond.fieldLink RX5 170 "VowDoves$Book" "seen" "I", Cond.fieldLink RX5 173 "VowDoves$Book" "seenKeepers" "[I", Cond.fieldLink RX5 176 "VowDoves$Book" "seenHards" "[I", Cond.fieldLink RX5 179 "VowDoves$Book" "seenKept" "[Z", Cond.methodLink RX5 244 yX5_yearsKeptBy, Cond.static yX5_yearsKeptBy, Cond.code yX5_yearsKeptBy cX5_yearsKeptBy 6 (some .int), Cond.methodLink RX5 248 Lib.Math.min.name, Cond.static Lib.Math.min.name, Cond.initialized "java/lang/Math", Cond.code Lib.Math.min.name Lib.Math.min.code 2 (some .int), Cond.methodLink RX5 253 Lib.Math.max.name, Cond.static Lib.Math.max.name]
def wsX5_digestKeeper_r3 : List Cond := [Cond.code Lib.Math.max.name Lib.Math.max.code 2 (some .int), Cond.methodLink RX5 106 yX5_isOfKind, Cond.static yX5_isOfKind, Cond.code yX5_isOfKind cX5_isOfKind 2 (some .boolean), Cond.methodLink RX5 103 yX5_likelyFaith, Cond.instanceMethod yX5_likelyFaith, Cond.selects RX5 yX5_likelyFaith yX5_likelyFaith, Cond.code yX5_likelyFaith cX5_likelyFaith 8 (some .int), Cond.methodLink RX5 219 yX5_digestNumber, Cond.static yX5_digestNumber, Cond.code yX5_digestNumber cX5_digestNumber 4 (some .long), Cond.constantLong RX5 239 (31), Cond.methodLink RX5 232 yX5_keeps, Cond.instanceMethod yX5_keeps, Cond.selects RX5 yX5_keeps yX5_keeps, Cond.code yX5_keeps cX5_keeps 3 (some .int), Cond.methodLink RX5 110 yX2_yearsKept, Cond.instanceMethod yX2_yearsKept, Cond.selects RX2 yX2_yearsKept yX2_yearsKept, Cond.code yX2_yearsKept cX2_yearsKept 3 (some .int), Cond.fieldLink RX2 9 "VowDoves$Cote" "kinds" "[I", Cond.fieldLink RX2 15 "VowDoves$Cote" "faiths" "[I", Cond.methodLink RX2 53 yX2_hasKeeper]
def wsX5_digestKeeper : List Cond := .code yX5_digestKeeper cX5_digestKeeper 7 (some .long) :: ((wsX5_digestKeeper_r1 ++ (wsX5_digestKeeper_r2 ++ wsX5_digestKeeper_r3)) ++ wsX50 ++ wsX20 ++ wsX00)
def wsX5_digestWhatWouldBe_r1 : List Cond := [Cond.fieldLink RX5 36 "VowDoves" "matching" "LVowDoves$Matching;", Cond.fieldLink RX5 19 "VowDoves" "cote" "LVowDoves$Cote;", Cond.fieldLink RX5 26 "VowDoves" "book" "LVowDoves$Book;", Cond.fieldLink RX5 164 "VowDoves$Matching" "most" "I", Cond.fieldLink RX5 167 "VowDoves$Matching" "best" "[I", Cond.methodLink RX5 235 yX5_odds, Cond.instanceMethod yX5_odds, Cond.selects RX5 yX5_odds yX5_odds, Cond.initialized RX5, Cond.code yX5_odds cX5_odds 13 (some .long), Cond.constantLong RX5 150 (-102), Cond.constantLong RX5 152 (-103), Cond.fieldLink RX5 77 "VowDoves$Cote" "holes" "I", Cond.fieldLink RX5 123 "VowDoves$Book" "birds" "[I", Cond.fieldLink RX5 120 "VowDoves$Book" "letTo" "[I", Cond.fieldLink RX5 117 "VowDoves$Cote" "hards" "[I", Cond.constantLong RX5 154 (10), Cond.methodLink RX5 141 yX2_stands, Cond.instanceMethod yX2_stands, Cond.selects RX2 yX2_stands yX2_stands, Cond.initialized RX2, Cond.code yX2_stands cX2_stands 1 (some .boolean), Cond.fieldLink RX2 33 "VowDoves$Cote" "keepers" "I", Cond.methodLink RX5 110 yX2_yearsKept]
def wsX5_digestWhatWouldBe_r2 : List Cond := [Cond.instanceMethod yX2_yearsKept, Cond.selects RX2 yX2_yearsKept yX2_yearsKept, Cond.code yX2_yearsKept cX2_yearsKept 3 (some .int), Cond.fieldLink RX2 9 "VowDoves$Cote" "kinds" "[I", Cond.fieldLink RX2 15 "VowDoves$Cote" "faiths" "[I", Cond.methodLink RX2 53 yX2_hasKeeper, Cond.instanceMethod yX2_hasKeeper, Cond.selects RX2 yX2_hasKeeper yX2_hasKeeper, Cond.code yX2_hasKeeper cX2_hasKeeper 2 (some .boolean), Cond.static yX5_yearsKeptBy, Cond.code yX5_yearsKeptBy cX5_yearsKeptBy 6 (some .int), Cond.methodLink RX5 248 Lib.Math.min.name, Cond.static Lib.Math.min.name, Cond.initialized "java/lang/Math", Cond.code Lib.Math.min.name Lib.Math.min.code 2 (some .int), Cond.methodLink RX5 253 Lib.Math.max.name, Cond.static Lib.Math.max.name, Cond.code Lib.Math.max.name Lib.Math.max.code 2 (some .int), Cond.methodLink RX5 106 yX5_isOfKind, Cond.static yX5_isOfKind, Cond.code yX5_isOfKind cX5_isOfKind 2 (some .boolean), Cond.methodLink RX5 156 yX5_greatestDivisor, Cond.static yX5_greatestDivisor, Cond.code yX5_greatestDivisor cX5_greatestDivisor 11 (some .long)]
def wsX5_digestWhatWouldBe_r3 : List Cond := [Cond.methodLink RX5 219 yX5_digestNumber, Cond.static yX5_digestNumber, Cond.code yX5_digestNumber cX5_digestNumber 4 (some .long), Cond.constantLong RX5 239 (31), Cond.methodLink RX5 160 yX3_solve, Cond.instanceMethod yX3_solve, Cond.selects RX3 yX3_solve yX3_solve, Cond.initialized RX3, Cond.code yX3_solve cX3_solve 5 none, Cond.fieldLink RX3 20 "VowDoves$Matching" "room" "[I", Cond.fieldLink RX3 44 "VowDoves$Book" "birds" "[I", Cond.fieldLink RX3 16 "VowDoves$Matching" "limit" "[I", Cond.fieldLink RX3 23 "VowDoves$Matching" "tried" "[I", Cond.fieldLink RX3 51 "VowDoves$Matching" "most" "I", Cond.methodLink RX3 29 yX2_hasKeeper, Cond.methodLink RX3 35 yX0_roomOf, Cond.instanceMethod yX0_roomOf, Cond.selects RX0 yX0_roomOf yX0_roomOf, Cond.initialized RX0, Cond.code yX0_roomOf cX0_roomOf 2 (some .int), Cond.methodLink RX0 57 yX0_holesOf, Cond.instanceMethod yX0_holesOf, Cond.selects RX0 yX0_holesOf yX0_holesOf, Cond.code yX0_holesOf cX0_holesOf 4 (some .int)]
def wsX5_digestWhatWouldBe_r4 : List Cond := [Cond.fieldLink RX0 9 "VowDoves$Book" "letTo" "[I", Cond.methodLink RX0 61 yJ6_bitCount_0f7a4, Cond.static yJ6_bitCount_0f7a4, Cond.initialized RJ6, Cond.code yJ6_bitCount_0f7a4 cJ6_bitCount_0f7a4 1 (some .int), Cond.constant RJ6 265 (1431655765), Cond.constant RJ6 266 (858993459), Cond.constant RJ6 267 (252645135), Cond.methodLink RX3 41 yX2_hasHole, Cond.instanceMethod yX2_hasHole, Cond.selects RX2 yX2_hasHole yX2_hasHole, Cond.code yX2_hasHole cX2_hasHole 2 (some .boolean), Cond.fieldLink RX2 39 "VowDoves$Cote" "holes" "I", Cond.methodLink RX3 47 yX3_weigh, Cond.instanceMethod yX3_weigh, Cond.selects RX3 yX3_weigh yX3_weigh, Cond.code yX3_weigh cX3_weigh 6 (some .int), Cond.fieldLink RX3 11 "VowDoves$Matching" "worth" "[[I", Cond.fieldLink RX3 59 "VowDoves$Cote" "hards" "[I", Cond.methodLink RX3 66 Lib.Math.max.name, Cond.methodLink RX3 62 yX2_yearsKept, Cond.methodLink RX3 55 yX3_search, Cond.static yX3_search, Cond.code yX3_search cX3_search 4 none]
def wsX5_digestWhatWouldBe_r5 : List Cond := [Cond.fieldLink RX3 26 "VowDoves$Matching" "best" "[I", Cond.methodLink RX3 71 arraycopyName, Cond.native arraycopyName, Cond.static arraycopyName, Cond.initialized "java/lang/System"]
def wsX5_digestWhatWouldBe : List Cond := .code yX5_digestWhatWouldBe cX5_digestWhatWouldBe 6 (some .long) :: ((wsX5_digestWhatWouldBe_r1 ++ (wsX5_digestWhatWouldBe_r2 ++ (wsX5_digestWhatWouldBe_r3 ++ (wsX5_digestWhatWouldBe_r4 ++ wsX5_digestWhatWouldBe_r5)))) ++ wsX50 ++ wsX30 ++ wsX20 ++ wsX00)
def wsX5_digest_r1 : List Cond := [Cond.constantLong RX5 210 (1063), Cond.fieldLink RX5 19 "VowDoves" "cote" "LVowDoves$Cote;", Cond.fieldLink RX5 200 "VowDoves$Cote" "keepers" "I", Cond.fieldLink RX5 77 "VowDoves$Cote" "holes" "I", Cond.fieldLink RX5 10 "VowDoves" "page" "LVowDoves$Page;", Cond.fieldLink RX5 55 "VowDoves$Page" "size" "I", Cond.fieldLink RX5 58 "VowDoves$Page" "letters" "[I", Cond.methodLink RX5 212 yX5_digestKeeper, Cond.instanceMethod yX5_digestKeeper, Cond.selects RX5 yX5_digestKeeper yX5_digestKeeper, Cond.initialized RX5, Cond.code yX5_digestKeeper cX5_digestKeeper 7 (some .long), Cond.methodLink RX5 229 yX5_keeper, Cond.instanceMethod yX5_keeper, Cond.selects RX5 yX5_keeper yX5_keeper, Cond.code yX5_keeper cX5_keeper 3 (some .int), Cond.fieldLink RX5 84 "VowDoves$Cote" "kinds" "[I", Cond.fieldLink RX5 87 "VowDoves$Cote" "faiths" "[I", Cond.fieldLink RX5 26 "VowDoves" "book" "LVowDoves$Book;", Cond.fieldLink RX5 97 "VowDoves$Book" "broken" "[I", Cond.methodLink RX5 80 yX2_hasKeeper, Cond.instanceMethod yX2_hasKeeper, Cond.selects RX2 yX2_hasKeeper yX2_hasKeeper, Cond.initialized RX2]
def wsX5_digest_r2 : List Cond := [Cond.code yX2_hasKeeper cX2_hasKeeper 2 (some .boolean), Cond.fieldLink RX2 33 "VowDoves$Cote" "keepers" "I", Cond.methodLink RX5 90 yX0_holesOf, Cond.instanceMethod yX0_holesOf, Cond.selects RX0 yX0_holesOf yX0_holesOf, Cond.initialized RX0, Cond.code yX0_holesOf cX0_holesOf 4 (some .int), Cond.fieldLink RX0 9 "VowDoves$Book" "letTo" "[I", Cond.methodLink RX5 94 yX0_eggsOf, Cond.instanceMethod yX0_eggsOf, Cond.selects RX0 yX0_eggsOf yX0_eggsOf, Cond.code yX0_eggsOf cX0_eggsOf 4 (some .int), Cond.fieldLink RX0 18 "VowDoves$Book" "eggs" "[I", Cond.methodLink RX5 100 yX5_possibleFaiths, Cond.instanceMethod yX5_possibleFaiths, Cond.selects RX5 yX5_possibleFaiths yX5_possibleFaiths, Cond.code yX5_possibleFaiths cX5_possibleFaiths 4 (some .int), Cond.methodLink RX5 241 yX5_likelihood, Cond.instanceMethod yX5_likelihood, Cond.selects RX5 yX5_likelihood yX5_likelihood, Cond.code yX5_likelihood cX5_likelihood 7 (some .long), Cond.fieldLink RX5 170 "VowDoves$Book" "seen" "I", Cond.fieldLink RX5 173 "VowDoves$Book" "seenKeepers" "[I", Cond.fieldLink RX5 176 "VowDoves$Book" "seenHards" "[I"]
def wsX5_digest_r3 : List Cond := [Cond.fieldLink RX5 179 "VowDoves$Book" "seenKept" "[Z", Cond.methodLink RX5 244 yX5_yearsKeptBy, Cond.static yX5_yearsKeptBy, Cond.code yX5_yearsKeptBy cX5_yearsKeptBy 6 (some .int), Cond.methodLink RX5 248 Lib.Math.min.name, Cond.static Lib.Math.min.name, Cond.initialized "java/lang/Math", Cond.code Lib.Math.min.name Lib.Math.min.code 2 (some .int), Cond.methodLink RX5 253 Lib.Math.max.name, Cond.static Lib.Math.max.name, Cond.code Lib.Math.max.name Lib.Math.max.code 2 (some .int), Cond.methodLink RX5 106 yX5_isOfKind, Cond.static yX5_isOfKind, Cond.code yX5_isOfKind cX5_isOfKind 2 (some .boolean), Cond.methodLink RX5 103 yX5_likelyFaith, Cond.instanceMethod yX5_likelyFaith, Cond.selects RX5 yX5_likelyFaith yX5_likelyFaith, Cond.code yX5_likelyFaith cX5_likelyFaith 8 (some .int), Cond.methodLink RX5 219 yX5_digestNumber, Cond.static yX5_digestNumber, Cond.code yX5_digestNumber cX5_digestNumber 4 (some .long), Cond.constantLong RX5 239 (31), Cond.methodLink RX5 232 yX5_keeps, Cond.instanceMethod yX5_keeps]
def wsX5_digest_r4 : List Cond := [Cond.selects RX5 yX5_keeps yX5_keeps, Cond.code yX5_keeps cX5_keeps 3 (some .int), Cond.methodLink RX5 110 yX2_yearsKept, Cond.instanceMethod yX2_yearsKept, Cond.selects RX2 yX2_yearsKept yX2_yearsKept, Cond.code yX2_yearsKept cX2_yearsKept 3 (some .int), Cond.fieldLink RX2 9 "VowDoves$Cote" "kinds" "[I", Cond.fieldLink RX2 15 "VowDoves$Cote" "faiths" "[I", Cond.methodLink RX2 53 yX2_hasKeeper, Cond.methodLink RX5 216 yX5_hole, Cond.instanceMethod yX5_hole, Cond.selects RX5 yX5_hole yX5_hole, Cond.code yX5_hole cX5_hole 3 (some .int), Cond.fieldLink RX5 117 "VowDoves$Cote" "hards" "[I", Cond.fieldLink RX5 120 "VowDoves$Book" "letTo" "[I", Cond.fieldLink RX5 123 "VowDoves$Book" "birds" "[I", Cond.fieldLink RX5 126 "VowDoves$Book" "eggs" "[I", Cond.methodLink RX5 114 yX2_hasHole, Cond.instanceMethod yX2_hasHole, Cond.selects RX2 yX2_hasHole yX2_hasHole, Cond.code yX2_hasHole cX2_hasHole 2 (some .boolean), Cond.fieldLink RX2 39 "VowDoves$Cote" "holes" "I", Cond.methodLink RX5 141 yX2_stands, Cond.instanceMethod yX2_stands]
def wsX5_digest_r5 : List Cond := [Cond.selects RX2 yX2_stands yX2_stands, Cond.code yX2_stands cX2_stands 1 (some .boolean), Cond.methodLink RX5 222 yX5_digestWhatWouldBe, Cond.instanceMethod yX5_digestWhatWouldBe, Cond.selects RX5 yX5_digestWhatWouldBe yX5_digestWhatWouldBe, Cond.code yX5_digestWhatWouldBe cX5_digestWhatWouldBe 6 (some .long), Cond.fieldLink RX5 36 "VowDoves" "matching" "LVowDoves$Matching;", Cond.fieldLink RX5 164 "VowDoves$Matching" "most" "I", Cond.fieldLink RX5 167 "VowDoves$Matching" "best" "[I", Cond.methodLink RX5 235 yX5_odds, Cond.instanceMethod yX5_odds, Cond.selects RX5 yX5_odds yX5_odds, Cond.code yX5_odds cX5_odds 13 (some .long), Cond.constantLong RX5 150 (-102), Cond.constantLong RX5 152 (-103), Cond.constantLong RX5 154 (10), Cond.methodLink RX5 156 yX5_greatestDivisor, Cond.static yX5_greatestDivisor, Cond.code yX5_greatestDivisor cX5_greatestDivisor 11 (some .long), Cond.methodLink RX5 160 yX3_solve, Cond.instanceMethod yX3_solve, Cond.selects RX3 yX3_solve yX3_solve, Cond.initialized RX3, Cond.code yX3_solve cX3_solve 5 none]
def wsX5_digest_r6 : List Cond := [Cond.fieldLink RX3 20 "VowDoves$Matching" "room" "[I", Cond.fieldLink RX3 44 "VowDoves$Book" "birds" "[I", Cond.fieldLink RX3 16 "VowDoves$Matching" "limit" "[I", Cond.fieldLink RX3 23 "VowDoves$Matching" "tried" "[I", Cond.fieldLink RX3 51 "VowDoves$Matching" "most" "I", Cond.methodLink RX3 29 yX2_hasKeeper, Cond.methodLink RX3 35 yX0_roomOf, Cond.instanceMethod yX0_roomOf, Cond.selects RX0 yX0_roomOf yX0_roomOf, Cond.code yX0_roomOf cX0_roomOf 2 (some .int), Cond.methodLink RX0 57 yX0_holesOf, Cond.methodLink RX0 61 yJ6_bitCount_0f7a4, Cond.static yJ6_bitCount_0f7a4, Cond.initialized RJ6, Cond.code yJ6_bitCount_0f7a4 cJ6_bitCount_0f7a4 1 (some .int), Cond.constant RJ6 265 (1431655765), Cond.constant RJ6 266 (858993459), Cond.constant RJ6 267 (252645135), Cond.methodLink RX3 41 yX2_hasHole, Cond.methodLink RX3 47 yX3_weigh, Cond.instanceMethod yX3_weigh, Cond.selects RX3 yX3_weigh yX3_weigh, Cond.code yX3_weigh cX3_weigh 6 (some .int), Cond.fieldLink RX3 11 "VowDoves$Matching" "worth" "[[I"]
def wsX5_digest_r7 : List Cond := [Cond.fieldLink RX3 59 "VowDoves$Cote" "hards" "[I", Cond.methodLink RX3 66 Lib.Math.max.name, Cond.methodLink RX3 62 yX2_yearsKept, Cond.methodLink RX3 55 yX3_search, Cond.static yX3_search, Cond.code yX3_search cX3_search 4 none, Cond.fieldLink RX3 26 "VowDoves$Matching" "best" "[I", Cond.methodLink RX3 71 arraycopyName, Cond.native arraycopyName, Cond.static arraycopyName, Cond.initialized "java/lang/System", Cond.methodLink RX5 226 yX5_count, Cond.instanceMethod yX5_count, Cond.selects RX5 yX5_count yX5_count, Cond.code yX5_count cX5_count 2 (some .int), Cond.fieldLink RX5 144 "VowDoves$Book" "years" "I", Cond.fieldLink RX5 51 "VowDoves" "towersRead" "I", Cond.methodLink RX5 203 yX0_holesWith, Cond.instanceMethod yX0_holesWith, Cond.selects RX0 yX0_holesWith yX0_holesWith, Cond.code yX0_holesWith cX0_holesWith 7 (some .int), Cond.fieldLink RX0 15 "VowDoves$Book" "birds" "[I", Cond.methodLink RX5 206 yX5_sum, Cond.static yX5_sum]
def wsX5_digest_r8 : List Cond := [Cond.code yX5_sum cX5_sum 6 (some .int)]
def wsX5_digest : List Cond := .code yX5_digest cX5_digest 5 (some .long) :: ((wsX5_digest_r1 ++ (wsX5_digest_r2 ++ (wsX5_digest_r3 ++ (wsX5_digest_r4 ++ (wsX5_digest_r5 ++ (wsX5_digest_r6 ++ (wsX5_digest_r7 ++ wsX5_digest_r8))))))) ++ wsX50 ++ wsX20 ++ wsX40 ++ wsX00 ++ wsX30)
def wsX6_init : List Cond := .code yX6_init cX6_init 1 none :: ([.methodLink RX6 1 objectInit, .instanceMethod objectInit, .code objectInit ⟨#[0xb1]⟩ 1 none, .arrayClass .int, .fieldLink RX6 7 "VowDovesModel" "page" "[I", .fieldLink RX6 13 "VowDovesModel" "rows" "[I", .fieldLink RX6 16 "VowDovesModel" "nests" "[I", .fieldLink RX6 19 "VowDovesModel" "row" "[I", .fieldLink RX6 22 "VowDovesModel" "bestRow" "[I", .fieldLink RX6 25 "VowDovesModel" "sights" "[I", .fieldLink RX6 28 "VowDovesModel" "saved" "[I", .fieldLink RX6 31 "VowDovesModel" "keptRows" "[I", .fieldLink RX6 34 "VowDovesModel" "keptNests" "[I", .fieldLink RX6 37 "VowDovesModel" "keptSights" "[I", .fieldLink RX6 40 "VowDovesModel" "keptTower" "I"] ++ wsX60)
def wsX6_in : List Cond := .code yX6_in cX6_in 6 (some .boolean) :: ([])
def wsX6_copy : List Cond := .code yX6_copy cX6_copy 3 none :: ([])
def wsX6_common : List Cond := .code yX6_common cX6_common 10 (some .long) :: ([])
def wsX6_letter : List Cond := .code yX6_letter cX6_letter 2 (some .int) :: ([.constantLong RX6 44 (126), .fieldLink RX6 50 "VowDovesModel" "pageMany" "I", .fieldLink RX6 7 "VowDovesModel" "page" "[I", .methodLink RX6 46 yX6_in, .static yX6_in, .initialized RX6, .code yX6_in cX6_in 6 (some .boolean)] ++ wsX60)
def wsX6_blank : List Cond := .code yX6_blank cX6_blank 2 (some .int) :: ([.fieldLink RX6 50 "VowDovesModel" "pageMany" "I"] ++ wsX60)
def wsX6_kindBy : List Cond := .code yX6_kindBy cX6_kindBy 1 (some .int) :: ([])
def wsX6_isGood : List Cond := .code yX6_isGood cX6_isGood 3 (some .boolean) :: ([.fieldLink RX6 7 "VowDovesModel" "page" "[I", .fieldLink RX6 53 "VowDovesModel" "endAt" "I", .constantLong RX6 56 (48), .constantLong RX6 58 (57), .methodLink RX6 46 yX6_in, .static yX6_in, .initialized RX6, .code yX6_in cX6_in 6 (some .boolean), .methodLink RX6 60 yX6_kindBy, .static yX6_kindBy, .code yX6_kindBy cX6_kindBy 1 (some .int)] ++ wsX60)
def wsX6_faultOf : List Cond := .code yX6_faultOf cX6_faultOf 2 (some .int) :: ([.fieldLink RX6 53 "VowDovesModel" "endAt" "I", .fieldLink RX6 50 "VowDovesModel" "pageMany" "I", .methodLink RX6 64 yX6_isGood, .instanceMethod yX6_isGood, .selects RX6 yX6_isGood yX6_isGood, .initialized RX6, .code yX6_isGood cX6_isGood 3 (some .boolean), .fieldLink RX6 7 "VowDovesModel" "page" "[I", .constantLong RX6 56 (48), .constantLong RX6 58 (57), .methodLink RX6 46 yX6_in, .static yX6_in, .code yX6_in cX6_in 6 (some .boolean), .methodLink RX6 60 yX6_kindBy, .static yX6_kindBy, .code yX6_kindBy cX6_kindBy 1 (some .int)] ++ wsX60)
def wsX6_fault : List Cond := .code yX6_fault cX6_fault 1 (some .int) :: ([.methodLink RX6 68 yX6_faultOf, .instanceMethod yX6_faultOf, .selects RX6 yX6_faultOf yX6_faultOf, .initialized RX6, .code yX6_faultOf cX6_faultOf 2 (some .int), .fieldLink RX6 53 "VowDovesModel" "endAt" "I", .fieldLink RX6 50 "VowDovesModel" "pageMany" "I", .methodLink RX6 64 yX6_isGood, .instanceMethod yX6_isGood, .selects RX6 yX6_isGood yX6_isGood, .code yX6_isGood cX6_isGood 3 (some .boolean), .fieldLink RX6 7 "VowDovesModel" "page" "[I", .constantLong RX6 56 (48), .constantLong RX6 58 (57), .methodLink RX6 46 yX6_in, .static yX6_in, .code yX6_in cX6_in 6 (some .boolean), .methodLink RX6 60 yX6_kindBy, .static yX6_kindBy, .code yX6_kindBy cX6_kindBy 1 (some .int)] ++ wsX60)
def wsX6_empty : List Cond := .code yX6_empty cX6_empty 2 none :: ([.fieldLink RX6 16 "VowDovesModel" "nests" "[I"] ++ wsX60)
def wsX6_tower_r1 : List Cond := [Cond.fieldLink RX6 50 "VowDovesModel" "pageMany" "I", Cond.fieldLink RX6 53 "VowDovesModel" "endAt" "I", Cond.fieldLink RX6 72 "VowDovesModel" "keepers" "I", Cond.fieldLink RX6 13 "VowDovesModel" "rows" "[I", Cond.fieldLink RX6 7 "VowDovesModel" "page" "[I", Cond.fieldLink RX6 75 "VowDovesModel" "holes" "I", Cond.fieldLink RX6 16 "VowDovesModel" "nests" "[I", Cond.fieldLink RX6 82 "VowDovesModel" "years" "I", Cond.fieldLink RX6 85 "VowDovesModel" "seenMany" "I", Cond.fieldLink RX6 88 "VowDovesModel" "towersRead" "I", Cond.methodLink RX6 68 yX6_faultOf, Cond.instanceMethod yX6_faultOf, Cond.selects RX6 yX6_faultOf yX6_faultOf, Cond.initialized RX6, Cond.code yX6_faultOf cX6_faultOf 2 (some .int), Cond.methodLink RX6 64 yX6_isGood, Cond.instanceMethod yX6_isGood, Cond.selects RX6 yX6_isGood yX6_isGood, Cond.code yX6_isGood cX6_isGood 3 (some .boolean), Cond.constantLong RX6 56 (48), Cond.constantLong RX6 58 (57), Cond.methodLink RX6 46 yX6_in, Cond.static yX6_in, Cond.code yX6_in cX6_in 6 (some .boolean)]
def wsX6_tower_r2 : List Cond := [Cond.methodLink RX6 60 yX6_kindBy, Cond.static yX6_kindBy, Cond.code yX6_kindBy cX6_kindBy 1 (some .int), Cond.methodLink RX6 78 yX6_empty, Cond.instanceMethod yX6_empty, Cond.selects RX6 yX6_empty yX6_empty, Cond.code yX6_empty cX6_empty 2 none]
def wsX6_tower : List Cond := .code yX6_tower cX6_tower 2 (some .int) :: ((wsX6_tower_r1 ++ wsX6_tower_r2) ++ wsX60)
def wsX6_lacks : List Cond := .code yX6_lacks cX6_lacks 1 (some .boolean) :: ([.fieldLink RX6 75 "VowDovesModel" "holes" "I"] ++ wsX60)
def wsX6_isKeeper : List Cond := .code yX6_isKeeper cX6_isKeeper 2 (some .boolean) :: ([.fieldLink RX6 72 "VowDovesModel" "keepers" "I", .methodLink RX6 46 yX6_in, .static yX6_in, .initialized RX6, .code yX6_in cX6_in 6 (some .boolean)] ++ wsX60)
def wsX6_isHole : List Cond := .code yX6_isHole cX6_isHole 2 (some .boolean) :: ([.fieldLink RX6 75 "VowDovesModel" "holes" "I", .methodLink RX6 46 yX6_in, .static yX6_in, .initialized RX6, .code yX6_in cX6_in 6 (some .boolean)] ++ wsX60)
def wsX6_tenthsBy : List Cond := .code yX6_tenthsBy cX6_tenthsBy 4 (some .int) :: ([])
def wsX6_tenthsOf : List Cond := .code yX6_tenthsOf cX6_tenthsOf 3 (some .int) :: ([.fieldLink RX6 13 "VowDovesModel" "rows" "[I", .methodLink RX6 91 yX6_tenthsBy, .static yX6_tenthsBy, .initialized RX6, .code yX6_tenthsBy cX6_tenthsBy 4 (some .int)] ++ wsX60)
def wsX6_setOf : List Cond := .code yX6_setOf cX6_setOf 4 (some .int) :: ([.fieldLink RX6 75 "VowDovesModel" "holes" "I", .fieldLink RX6 16 "VowDovesModel" "nests" "[I"] ++ wsX60)
def wsX6_ones : List Cond := .code yX6_ones cX6_ones 3 (some .int) :: ([])
def wsX6_eggsIn : List Cond := .code yX6_eggsIn cX6_eggsIn 4 (some .int) :: ([.fieldLink RX6 75 "VowDovesModel" "holes" "I", .fieldLink RX6 16 "VowDovesModel" "nests" "[I"] ++ wsX60)
def wsX6_waysBy : List Cond := .code yX6_waysBy cX6_waysBy 7 (some .long) :: ([.fieldLink RX6 85 "VowDovesModel" "seenMany" "I", .fieldLink RX6 13 "VowDovesModel" "rows" "[I", .fieldLink RX6 25 "VowDovesModel" "sights" "[I", .methodLink RX6 91 yX6_tenthsBy, .static yX6_tenthsBy, .initialized RX6, .code yX6_tenthsBy cX6_tenthsBy 4 (some .int)] ++ wsX60)
def wsX6_faithsOf : List Cond := .code yX6_faithsOf cX6_faithsOf 4 (some .int) :: ([.methodLink RX6 170 yX6_waysBy, .instanceMethod yX6_waysBy, .selects RX6 yX6_waysBy yX6_waysBy, .initialized RX6, .code yX6_waysBy cX6_waysBy 7 (some .long), .fieldLink RX6 85 "VowDovesModel" "seenMany" "I", .fieldLink RX6 13 "VowDovesModel" "rows" "[I", .fieldLink RX6 25 "VowDovesModel" "sights" "[I", .methodLink RX6 91 yX6_tenthsBy, .static yX6_tenthsBy, .code yX6_tenthsBy cX6_tenthsBy 4 (some .int)] ++ wsX60)
def wsX6_likelyOf : List Cond := .code yX6_likelyOf cX6_likelyOf 8 (some .int) :: ([.methodLink RX6 170 yX6_waysBy, .instanceMethod yX6_waysBy, .selects RX6 yX6_waysBy yX6_waysBy, .initialized RX6, .code yX6_waysBy cX6_waysBy 7 (some .long), .fieldLink RX6 85 "VowDovesModel" "seenMany" "I", .fieldLink RX6 13 "VowDovesModel" "rows" "[I", .fieldLink RX6 25 "VowDovesModel" "sights" "[I", .methodLink RX6 91 yX6_tenthsBy, .static yX6_tenthsBy, .code yX6_tenthsBy cX6_tenthsBy 4 (some .int)] ++ wsX60)
def wsX6_tellKeeper_r1 : List Cond := [Cond.fieldLink RX6 13 "VowDovesModel" "rows" "[I", Cond.methodLink RX6 95 yX6_setOf, Cond.instanceMethod yX6_setOf, Cond.selects RX6 yX6_setOf yX6_setOf, Cond.initialized RX6, Cond.code yX6_setOf cX6_setOf 4 (some .int), Cond.fieldLink RX6 75 "VowDovesModel" "holes" "I", Cond.fieldLink RX6 16 "VowDovesModel" "nests" "[I", Cond.methodLink RX6 98 yX6_eggsIn, Cond.instanceMethod yX6_eggsIn, Cond.selects RX6 yX6_eggsIn yX6_eggsIn, Cond.code yX6_eggsIn cX6_eggsIn 4 (some .int), Cond.methodLink RX6 101 yX6_faithsOf, Cond.instanceMethod yX6_faithsOf, Cond.selects RX6 yX6_faithsOf yX6_faithsOf, Cond.code yX6_faithsOf cX6_faithsOf 4 (some .int), Cond.methodLink RX6 170 yX6_waysBy, Cond.instanceMethod yX6_waysBy, Cond.selects RX6 yX6_waysBy yX6_waysBy, Cond.code yX6_waysBy cX6_waysBy 7 (some .long), Cond.fieldLink RX6 85 "VowDovesModel" "seenMany" "I", Cond.fieldLink RX6 25 "VowDovesModel" "sights" "[I", Cond.methodLink RX6 91 yX6_tenthsBy, Cond.static yX6_tenthsBy]
def wsX6_tellKeeper_r2 : List Cond := [Cond.code yX6_tenthsBy cX6_tenthsBy 4 (some .int), Cond.methodLink RX6 104 yX6_likelyOf, Cond.instanceMethod yX6_likelyOf, Cond.selects RX6 yX6_likelyOf yX6_likelyOf, Cond.code yX6_likelyOf cX6_likelyOf 8 (some .int)]
def wsX6_tellKeeper : List Cond := .code yX6_tellKeeper cX6_tellKeeper 3 (some .int) :: ((wsX6_tellKeeper_r1 ++ wsX6_tellKeeper_r2) ++ wsX60)
def wsX6_keeper_r1 : List Cond := [Cond.methodLink RX6 107 yX6_isKeeper, Cond.instanceMethod yX6_isKeeper, Cond.selects RX6 yX6_isKeeper yX6_isKeeper, Cond.initialized RX6, Cond.code yX6_isKeeper cX6_isKeeper 2 (some .boolean), Cond.fieldLink RX6 72 "VowDovesModel" "keepers" "I", Cond.methodLink RX6 46 yX6_in, Cond.static yX6_in, Cond.code yX6_in cX6_in 6 (some .boolean), Cond.methodLink RX6 110 yX6_tellKeeper, Cond.instanceMethod yX6_tellKeeper, Cond.selects RX6 yX6_tellKeeper yX6_tellKeeper, Cond.code yX6_tellKeeper cX6_tellKeeper 3 (some .int), Cond.fieldLink RX6 13 "VowDovesModel" "rows" "[I", Cond.methodLink RX6 95 yX6_setOf, Cond.instanceMethod yX6_setOf, Cond.selects RX6 yX6_setOf yX6_setOf, Cond.code yX6_setOf cX6_setOf 4 (some .int), Cond.fieldLink RX6 75 "VowDovesModel" "holes" "I", Cond.fieldLink RX6 16 "VowDovesModel" "nests" "[I", Cond.methodLink RX6 98 yX6_eggsIn, Cond.instanceMethod yX6_eggsIn, Cond.selects RX6 yX6_eggsIn yX6_eggsIn, Cond.code yX6_eggsIn cX6_eggsIn 4 (some .int)]
def wsX6_keeper_r2 : List Cond := [Cond.methodLink RX6 101 yX6_faithsOf, Cond.instanceMethod yX6_faithsOf, Cond.selects RX6 yX6_faithsOf yX6_faithsOf, Cond.code yX6_faithsOf cX6_faithsOf 4 (some .int), Cond.methodLink RX6 170 yX6_waysBy, Cond.instanceMethod yX6_waysBy, Cond.selects RX6 yX6_waysBy yX6_waysBy, Cond.code yX6_waysBy cX6_waysBy 7 (some .long), Cond.fieldLink RX6 85 "VowDovesModel" "seenMany" "I", Cond.fieldLink RX6 25 "VowDovesModel" "sights" "[I", Cond.methodLink RX6 91 yX6_tenthsBy, Cond.static yX6_tenthsBy, Cond.code yX6_tenthsBy cX6_tenthsBy 4 (some .int), Cond.methodLink RX6 104 yX6_likelyOf, Cond.instanceMethod yX6_likelyOf, Cond.selects RX6 yX6_likelyOf yX6_likelyOf, Cond.code yX6_likelyOf cX6_likelyOf 8 (some .int)]
def wsX6_keeper : List Cond := .code yX6_keeper cX6_keeper 3 (some .int) :: ((wsX6_keeper_r1 ++ wsX6_keeper_r2) ++ wsX60)
def wsX6_as : List Cond := .code yX6_as cX6_as 5 (some .int) :: ([.constantLong RX6 114 (4), .fieldLink RX6 13 "VowDovesModel" "rows" "[I", .methodLink RX6 107 yX6_isKeeper, .instanceMethod yX6_isKeeper, .selects RX6 yX6_isKeeper yX6_isKeeper, .initialized RX6, .code yX6_isKeeper cX6_isKeeper 2 (some .boolean), .fieldLink RX6 72 "VowDovesModel" "keepers" "I", .methodLink RX6 46 yX6_in, .static yX6_in, .code yX6_in cX6_in 6 (some .boolean)] ++ wsX60)
def wsX6_keeps : List Cond := .code yX6_keeps cX6_keeps 3 (some .int) :: ([.constantLong RX6 116 (9), .methodLink RX6 107 yX6_isKeeper, .instanceMethod yX6_isKeeper, .selects RX6 yX6_isKeeper yX6_isKeeper, .initialized RX6, .code yX6_isKeeper cX6_isKeeper 2 (some .boolean), .fieldLink RX6 72 "VowDovesModel" "keepers" "I", .methodLink RX6 46 yX6_in, .static yX6_in, .code yX6_in cX6_in 6 (some .boolean), .methodLink RX6 118 yX6_tenthsOf, .instanceMethod yX6_tenthsOf, .selects RX6 yX6_tenthsOf yX6_tenthsOf, .code yX6_tenthsOf cX6_tenthsOf 3 (some .int), .fieldLink RX6 13 "VowDovesModel" "rows" "[I", .methodLink RX6 91 yX6_tenthsBy, .static yX6_tenthsBy, .code yX6_tenthsBy cX6_tenthsBy 4 (some .int)] ++ wsX60)
def wsX6_tenthsIn : List Cond := .code yX6_tenthsIn cX6_tenthsIn 2 (some .int) :: ([.fieldLink RX6 16 "VowDovesModel" "nests" "[I", .methodLink RX6 118 yX6_tenthsOf, .instanceMethod yX6_tenthsOf, .selects RX6 yX6_tenthsOf yX6_tenthsOf, .initialized RX6, .code yX6_tenthsOf cX6_tenthsOf 3 (some .int), .fieldLink RX6 13 "VowDovesModel" "rows" "[I", .methodLink RX6 91 yX6_tenthsBy, .static yX6_tenthsBy, .code yX6_tenthsBy cX6_tenthsBy 4 (some .int)] ++ wsX60)
def wsX6_tellHole : List Cond := .code yX6_tellHole cX6_tellHole 3 (some .int) :: ([.constantLong RX6 121 (3), .fieldLink RX6 16 "VowDovesModel" "nests" "[I", .methodLink RX6 46 yX6_in, .static yX6_in, .initialized RX6, .code yX6_in cX6_in 6 (some .boolean), .methodLink RX6 123 yX6_tenthsIn, .instanceMethod yX6_tenthsIn, .selects RX6 yX6_tenthsIn yX6_tenthsIn, .code yX6_tenthsIn cX6_tenthsIn 2 (some .int), .methodLink RX6 118 yX6_tenthsOf, .instanceMethod yX6_tenthsOf, .selects RX6 yX6_tenthsOf yX6_tenthsOf, .code yX6_tenthsOf cX6_tenthsOf 3 (some .int), .fieldLink RX6 13 "VowDovesModel" "rows" "[I", .methodLink RX6 91 yX6_tenthsBy, .static yX6_tenthsBy, .code yX6_tenthsBy cX6_tenthsBy 4 (some .int)] ++ wsX60)
def wsX6_hole_r1 : List Cond := [Cond.methodLink RX6 126 yX6_isHole, Cond.instanceMethod yX6_isHole, Cond.selects RX6 yX6_isHole yX6_isHole, Cond.initialized RX6, Cond.code yX6_isHole cX6_isHole 2 (some .boolean), Cond.fieldLink RX6 75 "VowDovesModel" "holes" "I", Cond.methodLink RX6 46 yX6_in, Cond.static yX6_in, Cond.code yX6_in cX6_in 6 (some .boolean), Cond.methodLink RX6 129 yX6_tellHole, Cond.instanceMethod yX6_tellHole, Cond.selects RX6 yX6_tellHole yX6_tellHole, Cond.code yX6_tellHole cX6_tellHole 3 (some .int), Cond.constantLong RX6 121 (3), Cond.fieldLink RX6 16 "VowDovesModel" "nests" "[I", Cond.methodLink RX6 123 yX6_tenthsIn, Cond.instanceMethod yX6_tenthsIn, Cond.selects RX6 yX6_tenthsIn yX6_tenthsIn, Cond.code yX6_tenthsIn cX6_tenthsIn 2 (some .int), Cond.methodLink RX6 118 yX6_tenthsOf, Cond.instanceMethod yX6_tenthsOf, Cond.selects RX6 yX6_tenthsOf yX6_tenthsOf, Cond.code yX6_tenthsOf cX6_tenthsOf 3 (some .int), Cond.fieldLink RX6 13 "VowDovesModel" "rows" "[I"]
def wsX6_hole_r2 : List Cond := [Cond.methodLink RX6 91 yX6_tenthsBy, Cond.static yX6_tenthsBy, Cond.code yX6_tenthsBy cX6_tenthsBy 4 (some .int)]
def wsX6_hole : List Cond := .code yX6_hole cX6_hole 3 (some .int) :: ((wsX6_hole_r1 ++ wsX6_hole_r2) ++ wsX60)
def wsX6_let : List Cond := .code yX6_let cX6_let 3 (some .int) :: ([.fieldLink RX6 16 "VowDovesModel" "nests" "[I", .methodLink RX6 126 yX6_isHole, .instanceMethod yX6_isHole, .selects RX6 yX6_isHole yX6_isHole, .initialized RX6, .code yX6_isHole cX6_isHole 2 (some .boolean), .fieldLink RX6 75 "VowDovesModel" "holes" "I", .methodLink RX6 46 yX6_in, .static yX6_in, .code yX6_in cX6_in 6 (some .boolean), .methodLink RX6 107 yX6_isKeeper, .instanceMethod yX6_isKeeper, .selects RX6 yX6_isKeeper yX6_isKeeper, .code yX6_isKeeper cX6_isKeeper 2 (some .boolean), .fieldLink RX6 72 "VowDovesModel" "keepers" "I", .methodLink RX6 95 yX6_setOf, .instanceMethod yX6_setOf, .selects RX6 yX6_setOf yX6_setOf, .code yX6_setOf cX6_setOf 4 (some .int), .methodLink RX6 132 yX6_ones, .static yX6_ones, .code yX6_ones cX6_ones 3 (some .int)] ++ wsX60)
def wsX6_leave : List Cond := .code yX6_leave cX6_leave 3 (some .int) :: ([.fieldLink RX6 16 "VowDovesModel" "nests" "[I", .methodLink RX6 126 yX6_isHole, .instanceMethod yX6_isHole, .selects RX6 yX6_isHole yX6_isHole, .initialized RX6, .code yX6_isHole cX6_isHole 2 (some .boolean), .fieldLink RX6 75 "VowDovesModel" "holes" "I", .methodLink RX6 46 yX6_in, .static yX6_in, .code yX6_in cX6_in 6 (some .boolean), .methodLink RX6 78 yX6_empty, .instanceMethod yX6_empty, .selects RX6 yX6_empty yX6_empty, .code yX6_empty cX6_empty 2 none] ++ wsX60)
def wsX6_keepVow : List Cond := .code yX6_keepVow cX6_keepVow 2 none :: ([.fieldLink RX6 16 "VowDovesModel" "nests" "[I", .fieldLink RX6 13 "VowDovesModel" "rows" "[I"] ++ wsX60)
def wsX6_year : List Cond := .code yX6_year cX6_year 5 (some .int) :: ([.fieldLink RX6 75 "VowDovesModel" "holes" "I", .fieldLink RX6 82 "VowDovesModel" "years" "I", .fieldLink RX6 16 "VowDovesModel" "nests" "[I", .fieldLink RX6 13 "VowDovesModel" "rows" "[I", .methodLink RX6 46 yX6_in, .static yX6_in, .initialized RX6, .code yX6_in cX6_in 6 (some .boolean), .methodLink RX6 135 yX6_lacks, .instanceMethod yX6_lacks, .selects RX6 yX6_lacks yX6_lacks, .code yX6_lacks cX6_lacks 1 (some .boolean), .methodLink RX6 139 yX6_keepVow, .instanceMethod yX6_keepVow, .selects RX6 yX6_keepVow yX6_keepVow, .code yX6_keepVow cX6_keepVow 2 none, .methodLink RX6 78 yX6_empty, .instanceMethod yX6_empty, .selects RX6 yX6_empty yX6_empty, .code yX6_empty cX6_empty 2 none] ++ wsX60)
def wsX6_forgive : List Cond := .code yX6_forgive cX6_forgive 3 (some .int) :: ([.fieldLink RX6 75 "VowDovesModel" "holes" "I", .fieldLink RX6 16 "VowDovesModel" "nests" "[I", .methodLink RX6 78 yX6_empty, .instanceMethod yX6_empty, .selects RX6 yX6_empty yX6_empty, .initialized RX6, .code yX6_empty cX6_empty 2 none] ++ wsX60)
def wsX6_oddsOf : List Cond := .code yX6_oddsOf cX6_oddsOf 9 (some .long) :: ([.fieldLink RX6 75 "VowDovesModel" "holes" "I", .fieldLink RX6 16 "VowDovesModel" "nests" "[I", .constantLong RX6 142 (10), .methodLink RX6 123 yX6_tenthsIn, .instanceMethod yX6_tenthsIn, .selects RX6 yX6_tenthsIn yX6_tenthsIn, .initialized RX6, .code yX6_tenthsIn cX6_tenthsIn 2 (some .int), .methodLink RX6 118 yX6_tenthsOf, .instanceMethod yX6_tenthsOf, .selects RX6 yX6_tenthsOf yX6_tenthsOf, .code yX6_tenthsOf cX6_tenthsOf 3 (some .int), .fieldLink RX6 13 "VowDovesModel" "rows" "[I", .methodLink RX6 91 yX6_tenthsBy, .static yX6_tenthsBy, .code yX6_tenthsBy cX6_tenthsBy 4 (some .int), .methodLink RX6 144 yX6_common, .static yX6_common, .code yX6_common cX6_common 10 (some .long)] ++ wsX60)
def wsX6_odds_r1 : List Cond := [Cond.constantLong RX6 148 (2), Cond.constantLong RX6 150 (-102), Cond.constantLong RX6 152 (-103), Cond.methodLink RX6 46 yX6_in, Cond.static yX6_in, Cond.initialized RX6, Cond.code yX6_in cX6_in 6 (some .boolean), Cond.methodLink RX6 135 yX6_lacks, Cond.instanceMethod yX6_lacks, Cond.selects RX6 yX6_lacks yX6_lacks, Cond.code yX6_lacks cX6_lacks 1 (some .boolean), Cond.fieldLink RX6 75 "VowDovesModel" "holes" "I", Cond.methodLink RX6 154 yX6_oddsOf, Cond.instanceMethod yX6_oddsOf, Cond.selects RX6 yX6_oddsOf yX6_oddsOf, Cond.code yX6_oddsOf cX6_oddsOf 9 (some .long), Cond.fieldLink RX6 16 "VowDovesModel" "nests" "[I", Cond.constantLong RX6 142 (10), Cond.methodLink RX6 123 yX6_tenthsIn, Cond.instanceMethod yX6_tenthsIn, Cond.selects RX6 yX6_tenthsIn yX6_tenthsIn, Cond.code yX6_tenthsIn cX6_tenthsIn 2 (some .int), Cond.methodLink RX6 118 yX6_tenthsOf, Cond.instanceMethod yX6_tenthsOf]
def wsX6_odds_r2 : List Cond := [Cond.selects RX6 yX6_tenthsOf yX6_tenthsOf, Cond.code yX6_tenthsOf cX6_tenthsOf 3 (some .int), Cond.fieldLink RX6 13 "VowDovesModel" "rows" "[I", Cond.methodLink RX6 91 yX6_tenthsBy, Cond.static yX6_tenthsBy, Cond.code yX6_tenthsBy cX6_tenthsBy 4 (some .int), Cond.methodLink RX6 144 yX6_common, Cond.static yX6_common, Cond.code yX6_common cX6_common 10 (some .long)]
def wsX6_odds : List Cond := .code yX6_odds cX6_odds 3 (some .long) :: ((wsX6_odds_r1 ++ wsX6_odds_r2) ++ wsX60)
def wsX6_layRow : List Cond := .code yX6_layRow cX6_layRow 7 (some .int) :: ([.fieldLink RX6 75 "VowDovesModel" "holes" "I", .fieldLink RX6 19 "VowDovesModel" "row" "[I", .fieldLink RX6 72 "VowDovesModel" "keepers" "I", .fieldLink RX6 16 "VowDovesModel" "nests" "[I", .methodLink RX6 118 yX6_tenthsOf, .instanceMethod yX6_tenthsOf, .selects RX6 yX6_tenthsOf yX6_tenthsOf, .initialized RX6, .code yX6_tenthsOf cX6_tenthsOf 3 (some .int), .fieldLink RX6 13 "VowDovesModel" "rows" "[I", .methodLink RX6 91 yX6_tenthsBy, .static yX6_tenthsBy, .code yX6_tenthsBy cX6_tenthsBy 4 (some .int), .methodLink RX6 95 yX6_setOf, .instanceMethod yX6_setOf, .selects RX6 yX6_setOf yX6_setOf, .code yX6_setOf cX6_setOf 4 (some .int), .methodLink RX6 132 yX6_ones, .static yX6_ones, .code yX6_ones cX6_ones 3 (some .int)] ++ wsX60)
def wsX6_matchOf_r1 : List Cond := [Cond.fieldLink RX6 75 "VowDovesModel" "holes" "I", Cond.fieldLink RX6 72 "VowDovesModel" "keepers" "I", Cond.fieldLink RX6 19 "VowDovesModel" "row" "[I", Cond.fieldLink RX6 22 "VowDovesModel" "bestRow" "[I", Cond.methodLink RX6 158 yX6_layRow, Cond.instanceMethod yX6_layRow, Cond.selects RX6 yX6_layRow yX6_layRow, Cond.initialized RX6, Cond.code yX6_layRow cX6_layRow 7 (some .int), Cond.fieldLink RX6 16 "VowDovesModel" "nests" "[I", Cond.methodLink RX6 118 yX6_tenthsOf, Cond.instanceMethod yX6_tenthsOf, Cond.selects RX6 yX6_tenthsOf yX6_tenthsOf, Cond.code yX6_tenthsOf cX6_tenthsOf 3 (some .int), Cond.fieldLink RX6 13 "VowDovesModel" "rows" "[I", Cond.methodLink RX6 91 yX6_tenthsBy, Cond.static yX6_tenthsBy, Cond.code yX6_tenthsBy cX6_tenthsBy 4 (some .int), Cond.methodLink RX6 95 yX6_setOf, Cond.instanceMethod yX6_setOf, Cond.selects RX6 yX6_setOf yX6_setOf, Cond.code yX6_setOf cX6_setOf 4 (some .int), Cond.methodLink RX6 132 yX6_ones, Cond.static yX6_ones]
def wsX6_matchOf_r2 : List Cond := [Cond.code yX6_ones cX6_ones 3 (some .int), Cond.methodLink RX6 161 yX6_copy, Cond.static yX6_copy, Cond.code yX6_copy cX6_copy 3 none]
def wsX6_matchOf : List Cond := .code yX6_matchOf cX6_matchOf 6 (some .int) :: ((wsX6_matchOf_r1 ++ wsX6_matchOf_r2) ++ wsX60)
def wsX6_match_r1 : List Cond := [Cond.constantLong RX6 142 (10), Cond.constantLong RX6 165 (14), Cond.methodLink RX6 46 yX6_in, Cond.static yX6_in, Cond.initialized RX6, Cond.code yX6_in cX6_in 6 (some .boolean), Cond.methodLink RX6 135 yX6_lacks, Cond.instanceMethod yX6_lacks, Cond.selects RX6 yX6_lacks yX6_lacks, Cond.code yX6_lacks cX6_lacks 1 (some .boolean), Cond.fieldLink RX6 75 "VowDovesModel" "holes" "I", Cond.methodLink RX6 167 yX6_matchOf, Cond.instanceMethod yX6_matchOf, Cond.selects RX6 yX6_matchOf yX6_matchOf, Cond.code yX6_matchOf cX6_matchOf 6 (some .int), Cond.fieldLink RX6 72 "VowDovesModel" "keepers" "I", Cond.fieldLink RX6 19 "VowDovesModel" "row" "[I", Cond.fieldLink RX6 22 "VowDovesModel" "bestRow" "[I", Cond.methodLink RX6 158 yX6_layRow, Cond.instanceMethod yX6_layRow, Cond.selects RX6 yX6_layRow yX6_layRow, Cond.code yX6_layRow cX6_layRow 7 (some .int), Cond.fieldLink RX6 16 "VowDovesModel" "nests" "[I", Cond.methodLink RX6 118 yX6_tenthsOf]
def wsX6_match_r2 : List Cond := [Cond.instanceMethod yX6_tenthsOf, Cond.selects RX6 yX6_tenthsOf yX6_tenthsOf, Cond.code yX6_tenthsOf cX6_tenthsOf 3 (some .int), Cond.fieldLink RX6 13 "VowDovesModel" "rows" "[I", Cond.methodLink RX6 91 yX6_tenthsBy, Cond.static yX6_tenthsBy, Cond.code yX6_tenthsBy cX6_tenthsBy 4 (some .int), Cond.methodLink RX6 95 yX6_setOf, Cond.instanceMethod yX6_setOf, Cond.selects RX6 yX6_setOf yX6_setOf, Cond.code yX6_setOf cX6_setOf 4 (some .int), Cond.methodLink RX6 132 yX6_ones, Cond.static yX6_ones, Cond.code yX6_ones cX6_ones 3 (some .int), Cond.methodLink RX6 161 yX6_copy, Cond.static yX6_copy, Cond.code yX6_copy cX6_copy 3 none]
def wsX6_match : List Cond := .code yX6_match cX6_match 2 (some .int) :: ((wsX6_match_r1 ++ wsX6_match_r2) ++ wsX60)
def wsX6_see : List Cond := .code yX6_see cX6_see 4 (some .int) :: ([.constantLong RX6 116 (9), .fieldLink RX6 85 "VowDovesModel" "seenMany" "I", .fieldLink RX6 25 "VowDovesModel" "sights" "[I", .methodLink RX6 107 yX6_isKeeper, .instanceMethod yX6_isKeeper, .selects RX6 yX6_isKeeper yX6_isKeeper, .initialized RX6, .code yX6_isKeeper cX6_isKeeper 2 (some .boolean), .fieldLink RX6 72 "VowDovesModel" "keepers" "I", .methodLink RX6 46 yX6_in, .static yX6_in, .code yX6_in cX6_in 6 (some .boolean)] ++ wsX60)
def wsX6_forget : List Cond := .code yX6_forget cX6_forget 2 (some .int) :: ([.fieldLink RX6 85 "VowDovesModel" "seenMany" "I"] ++ wsX60)
def wsX6_draw : List Cond := .code yX6_draw cX6_draw 2 (some .int) :: ([.constantLong RX6 173 (1103515245), .fieldLink RX6 175 "VowDovesModel" "seedNow" "I", .constantLong RX6 178 (12345), .constantLong RX6 180 (2147483647), .constant RX6 182 (65536)] ++ wsX60)
def wsX6_centuries_r1 : List Cond := [Cond.constantLong RX6 183 (60), Cond.constantLong RX6 148 (2), Cond.fieldLink RX6 16 "VowDovesModel" "nests" "[I", Cond.fieldLink RX6 28 "VowDovesModel" "saved" "[I", Cond.fieldLink RX6 175 "VowDovesModel" "seedNow" "I", Cond.fieldLink RX6 75 "VowDovesModel" "holes" "I", Cond.fieldLink RX6 13 "VowDovesModel" "rows" "[I", Cond.methodLink RX6 46 yX6_in, Cond.static yX6_in, Cond.initialized RX6, Cond.code yX6_in cX6_in 6 (some .boolean), Cond.methodLink RX6 135 yX6_lacks, Cond.instanceMethod yX6_lacks, Cond.selects RX6 yX6_lacks yX6_lacks, Cond.code yX6_lacks cX6_lacks 1 (some .boolean), Cond.methodLink RX6 161 yX6_copy, Cond.static yX6_copy, Cond.code yX6_copy cX6_copy 3 none, Cond.methodLink RX6 185 yX6_draw, Cond.instanceMethod yX6_draw, Cond.selects RX6 yX6_draw yX6_draw, Cond.code yX6_draw cX6_draw 2 (some .int), Cond.constantLong RX6 173 (1103515245), Cond.constantLong RX6 178 (12345)]
def wsX6_centuries_r2 : List Cond := [Cond.constantLong RX6 180 (2147483647), Cond.constant RX6 182 (65536), Cond.methodLink RX6 123 yX6_tenthsIn, Cond.instanceMethod yX6_tenthsIn, Cond.selects RX6 yX6_tenthsIn yX6_tenthsIn, Cond.code yX6_tenthsIn cX6_tenthsIn 2 (some .int), Cond.methodLink RX6 118 yX6_tenthsOf, Cond.instanceMethod yX6_tenthsOf, Cond.selects RX6 yX6_tenthsOf yX6_tenthsOf, Cond.code yX6_tenthsOf cX6_tenthsOf 3 (some .int), Cond.methodLink RX6 91 yX6_tenthsBy, Cond.static yX6_tenthsBy, Cond.code yX6_tenthsBy cX6_tenthsBy 4 (some .int), Cond.methodLink RX6 98 yX6_eggsIn, Cond.instanceMethod yX6_eggsIn, Cond.selects RX6 yX6_eggsIn yX6_eggsIn, Cond.code yX6_eggsIn cX6_eggsIn 4 (some .int)]
def wsX6_centuries : List Cond := .code yX6_centuries cX6_centuries 8 (some .int) :: ((wsX6_centuries_r1 ++ wsX6_centuries_r2) ++ wsX60)
def wsX6_image : List Cond := .code yX6_image cX6_image 1 (some .int) :: ([.fieldLink RX6 13 "VowDovesModel" "rows" "[I", .fieldLink RX6 31 "VowDovesModel" "keptRows" "[I", .fieldLink RX6 16 "VowDovesModel" "nests" "[I", .fieldLink RX6 34 "VowDovesModel" "keptNests" "[I", .fieldLink RX6 25 "VowDovesModel" "sights" "[I", .fieldLink RX6 37 "VowDovesModel" "keptSights" "[I", .fieldLink RX6 82 "VowDovesModel" "years" "I", .fieldLink RX6 188 "VowDovesModel" "keptYears" "I", .fieldLink RX6 85 "VowDovesModel" "seenMany" "I", .fieldLink RX6 191 "VowDovesModel" "keptSeen" "I", .fieldLink RX6 88 "VowDovesModel" "towersRead" "I", .fieldLink RX6 40 "VowDovesModel" "keptTower" "I", .methodLink RX6 135 yX6_lacks, .instanceMethod yX6_lacks, .selects RX6 yX6_lacks yX6_lacks, .initialized RX6, .code yX6_lacks cX6_lacks 1 (some .boolean), .fieldLink RX6 75 "VowDovesModel" "holes" "I", .methodLink RX6 161 yX6_copy, .static yX6_copy, .code yX6_copy cX6_copy 3 none] ++ wsX60)
def wsX6_restore : List Cond := .code yX6_restore cX6_restore 1 (some .int) :: ([.fieldLink RX6 40 "VowDovesModel" "keptTower" "I", .fieldLink RX6 88 "VowDovesModel" "towersRead" "I", .fieldLink RX6 31 "VowDovesModel" "keptRows" "[I", .fieldLink RX6 13 "VowDovesModel" "rows" "[I", .fieldLink RX6 34 "VowDovesModel" "keptNests" "[I", .fieldLink RX6 16 "VowDovesModel" "nests" "[I", .fieldLink RX6 37 "VowDovesModel" "keptSights" "[I", .fieldLink RX6 25 "VowDovesModel" "sights" "[I", .fieldLink RX6 188 "VowDovesModel" "keptYears" "I", .fieldLink RX6 82 "VowDovesModel" "years" "I", .fieldLink RX6 191 "VowDovesModel" "keptSeen" "I", .fieldLink RX6 85 "VowDovesModel" "seenMany" "I", .methodLink RX6 161 yX6_copy, .static yX6_copy, .initialized RX6, .code yX6_copy cX6_copy 3 none] ++ wsX60)
def wsX6_birds : List Cond := .code yX6_birds cX6_birds 4 (some .int) :: ([.fieldLink RX6 75 "VowDovesModel" "holes" "I", .fieldLink RX6 16 "VowDovesModel" "nests" "[I"] ++ wsX60)
def wsX6_brokenAll : List Cond := .code yX6_brokenAll cX6_brokenAll 3 (some .int) :: ([.fieldLink RX6 72 "VowDovesModel" "keepers" "I", .fieldLink RX6 13 "VowDovesModel" "rows" "[I"] ++ wsX60)
def wsX6_countOf : List Cond := .code yX6_countOf cX6_countOf 2 (some .int) :: ([.fieldLink RX6 72 "VowDovesModel" "keepers" "I", .fieldLink RX6 75 "VowDovesModel" "holes" "I", .fieldLink RX6 82 "VowDovesModel" "years" "I", .fieldLink RX6 85 "VowDovesModel" "seenMany" "I", .fieldLink RX6 50 "VowDovesModel" "pageMany" "I", .fieldLink RX6 88 "VowDovesModel" "towersRead" "I", .methodLink RX6 194 yX6_birds, .instanceMethod yX6_birds, .selects RX6 yX6_birds yX6_birds, .initialized RX6, .code yX6_birds cX6_birds 4 (some .int), .fieldLink RX6 16 "VowDovesModel" "nests" "[I", .methodLink RX6 98 yX6_eggsIn, .instanceMethod yX6_eggsIn, .selects RX6 yX6_eggsIn yX6_eggsIn, .code yX6_eggsIn cX6_eggsIn 4 (some .int), .methodLink RX6 197 yX6_brokenAll, .instanceMethod yX6_brokenAll, .selects RX6 yX6_brokenAll yX6_brokenAll, .code yX6_brokenAll cX6_brokenAll 3 (some .int), .fieldLink RX6 13 "VowDovesModel" "rows" "[I"] ++ wsX60)
def wsX6_count_r1 : List Cond := [Cond.methodLink RX6 200 yX6_countOf, Cond.instanceMethod yX6_countOf, Cond.selects RX6 yX6_countOf yX6_countOf, Cond.initialized RX6, Cond.code yX6_countOf cX6_countOf 2 (some .int), Cond.fieldLink RX6 72 "VowDovesModel" "keepers" "I", Cond.fieldLink RX6 75 "VowDovesModel" "holes" "I", Cond.fieldLink RX6 82 "VowDovesModel" "years" "I", Cond.fieldLink RX6 85 "VowDovesModel" "seenMany" "I", Cond.fieldLink RX6 50 "VowDovesModel" "pageMany" "I", Cond.fieldLink RX6 88 "VowDovesModel" "towersRead" "I", Cond.methodLink RX6 194 yX6_birds, Cond.instanceMethod yX6_birds, Cond.selects RX6 yX6_birds yX6_birds, Cond.code yX6_birds cX6_birds 4 (some .int), Cond.fieldLink RX6 16 "VowDovesModel" "nests" "[I", Cond.methodLink RX6 98 yX6_eggsIn, Cond.instanceMethod yX6_eggsIn, Cond.selects RX6 yX6_eggsIn yX6_eggsIn, Cond.code yX6_eggsIn cX6_eggsIn 4 (some .int), Cond.methodLink RX6 197 yX6_brokenAll, Cond.instanceMethod yX6_brokenAll, Cond.selects RX6 yX6_brokenAll yX6_brokenAll, Cond.code yX6_brokenAll cX6_brokenAll 3 (some .int)]
def wsX6_count_r2 : List Cond := [Cond.fieldLink RX6 13 "VowDovesModel" "rows" "[I"]
def wsX6_count : List Cond := .code yX6_count cX6_count 2 (some .int) :: ((wsX6_count_r1 ++ wsX6_count_r2) ++ wsX60)
def wsX6_say : List Cond := .code yX6_say cX6_say 3 none :: ([.constantLong RX6 203 (31), .fieldLink RX6 205 "VowDovesModel" "hash" "J"] ++ wsX60)
def wsX6_sayKeeper_r1 : List Cond := [Cond.methodLink RX6 110 yX6_tellKeeper, Cond.instanceMethod yX6_tellKeeper, Cond.selects RX6 yX6_tellKeeper yX6_tellKeeper, Cond.initialized RX6, Cond.code yX6_tellKeeper cX6_tellKeeper 3 (some .int), Cond.fieldLink RX6 13 "VowDovesModel" "rows" "[I", Cond.methodLink RX6 95 yX6_setOf, Cond.instanceMethod yX6_setOf, Cond.selects RX6 yX6_setOf yX6_setOf, Cond.code yX6_setOf cX6_setOf 4 (some .int), Cond.fieldLink RX6 75 "VowDovesModel" "holes" "I", Cond.fieldLink RX6 16 "VowDovesModel" "nests" "[I", Cond.methodLink RX6 98 yX6_eggsIn, Cond.instanceMethod yX6_eggsIn, Cond.selects RX6 yX6_eggsIn yX6_eggsIn, Cond.code yX6_eggsIn cX6_eggsIn 4 (some .int), Cond.methodLink RX6 101 yX6_faithsOf, Cond.instanceMethod yX6_faithsOf, Cond.selects RX6 yX6_faithsOf yX6_faithsOf, Cond.code yX6_faithsOf cX6_faithsOf 4 (some .int), Cond.methodLink RX6 170 yX6_waysBy, Cond.instanceMethod yX6_waysBy, Cond.selects RX6 yX6_waysBy yX6_waysBy, Cond.code yX6_waysBy cX6_waysBy 7 (some .long)]
def wsX6_sayKeeper_r2 : List Cond := [Cond.fieldLink RX6 85 "VowDovesModel" "seenMany" "I", Cond.fieldLink RX6 25 "VowDovesModel" "sights" "[I", Cond.methodLink RX6 91 yX6_tenthsBy, Cond.static yX6_tenthsBy, Cond.code yX6_tenthsBy cX6_tenthsBy 4 (some .int), Cond.methodLink RX6 104 yX6_likelyOf, Cond.instanceMethod yX6_likelyOf, Cond.selects RX6 yX6_likelyOf yX6_likelyOf, Cond.code yX6_likelyOf cX6_likelyOf 8 (some .int), Cond.methodLink RX6 209 yX6_say, Cond.instanceMethod yX6_say, Cond.selects RX6 yX6_say yX6_say, Cond.code yX6_say cX6_say 3 none, Cond.constantLong RX6 203 (31), Cond.fieldLink RX6 205 "VowDovesModel" "hash" "J", Cond.methodLink RX6 118 yX6_tenthsOf, Cond.instanceMethod yX6_tenthsOf, Cond.selects RX6 yX6_tenthsOf yX6_tenthsOf, Cond.code yX6_tenthsOf cX6_tenthsOf 3 (some .int)]
def wsX6_sayKeeper : List Cond := .code yX6_sayKeeper cX6_sayKeeper 3 none :: ((wsX6_sayKeeper_r1 ++ wsX6_sayKeeper_r2) ++ wsX60)
def wsX6_digest_r1 : List Cond := [Cond.constantLong RX6 213 (1063), Cond.fieldLink RX6 205 "VowDovesModel" "hash" "J", Cond.fieldLink RX6 72 "VowDovesModel" "keepers" "I", Cond.fieldLink RX6 75 "VowDovesModel" "holes" "I", Cond.fieldLink RX6 50 "VowDovesModel" "pageMany" "I", Cond.fieldLink RX6 7 "VowDovesModel" "page" "[I", Cond.methodLink RX6 215 yX6_sayKeeper, Cond.instanceMethod yX6_sayKeeper, Cond.selects RX6 yX6_sayKeeper yX6_sayKeeper, Cond.initialized RX6, Cond.code yX6_sayKeeper cX6_sayKeeper 3 none, Cond.methodLink RX6 110 yX6_tellKeeper, Cond.instanceMethod yX6_tellKeeper, Cond.selects RX6 yX6_tellKeeper yX6_tellKeeper, Cond.code yX6_tellKeeper cX6_tellKeeper 3 (some .int), Cond.fieldLink RX6 13 "VowDovesModel" "rows" "[I", Cond.methodLink RX6 95 yX6_setOf, Cond.instanceMethod yX6_setOf, Cond.selects RX6 yX6_setOf yX6_setOf, Cond.code yX6_setOf cX6_setOf 4 (some .int), Cond.fieldLink RX6 16 "VowDovesModel" "nests" "[I", Cond.methodLink RX6 98 yX6_eggsIn, Cond.instanceMethod yX6_eggsIn, Cond.selects RX6 yX6_eggsIn yX6_eggsIn]
def wsX6_digest_r2 : List Cond := [Cond.code yX6_eggsIn cX6_eggsIn 4 (some .int), Cond.methodLink RX6 101 yX6_faithsOf, Cond.instanceMethod yX6_faithsOf, Cond.selects RX6 yX6_faithsOf yX6_faithsOf, Cond.code yX6_faithsOf cX6_faithsOf 4 (some .int), Cond.methodLink RX6 170 yX6_waysBy, Cond.instanceMethod yX6_waysBy, Cond.selects RX6 yX6_waysBy yX6_waysBy, Cond.code yX6_waysBy cX6_waysBy 7 (some .long), Cond.fieldLink RX6 85 "VowDovesModel" "seenMany" "I", Cond.fieldLink RX6 25 "VowDovesModel" "sights" "[I", Cond.methodLink RX6 91 yX6_tenthsBy, Cond.static yX6_tenthsBy, Cond.code yX6_tenthsBy cX6_tenthsBy 4 (some .int), Cond.methodLink RX6 104 yX6_likelyOf, Cond.instanceMethod yX6_likelyOf, Cond.selects RX6 yX6_likelyOf yX6_likelyOf, Cond.code yX6_likelyOf cX6_likelyOf 8 (some .int), Cond.methodLink RX6 209 yX6_say, Cond.instanceMethod yX6_say, Cond.selects RX6 yX6_say yX6_say, Cond.code yX6_say cX6_say 3 none, Cond.constantLong RX6 203 (31), Cond.methodLink RX6 118 yX6_tenthsOf]
def wsX6_digest_r3 : List Cond := [Cond.instanceMethod yX6_tenthsOf, Cond.selects RX6 yX6_tenthsOf yX6_tenthsOf, Cond.code yX6_tenthsOf cX6_tenthsOf 3 (some .int), Cond.methodLink RX6 129 yX6_tellHole, Cond.instanceMethod yX6_tellHole, Cond.selects RX6 yX6_tellHole yX6_tellHole, Cond.code yX6_tellHole cX6_tellHole 3 (some .int), Cond.constantLong RX6 121 (3), Cond.methodLink RX6 46 yX6_in, Cond.static yX6_in, Cond.code yX6_in cX6_in 6 (some .boolean), Cond.methodLink RX6 123 yX6_tenthsIn, Cond.instanceMethod yX6_tenthsIn, Cond.selects RX6 yX6_tenthsIn yX6_tenthsIn, Cond.code yX6_tenthsIn cX6_tenthsIn 2 (some .int), Cond.methodLink RX6 135 yX6_lacks, Cond.instanceMethod yX6_lacks, Cond.selects RX6 yX6_lacks yX6_lacks, Cond.code yX6_lacks cX6_lacks 1 (some .boolean), Cond.methodLink RX6 154 yX6_oddsOf, Cond.instanceMethod yX6_oddsOf, Cond.selects RX6 yX6_oddsOf yX6_oddsOf, Cond.code yX6_oddsOf cX6_oddsOf 9 (some .long), Cond.constantLong RX6 142 (10)]
def wsX6_digest_r4 : List Cond := [Cond.methodLink RX6 144 yX6_common, Cond.static yX6_common, Cond.code yX6_common cX6_common 10 (some .long), Cond.methodLink RX6 167 yX6_matchOf, Cond.instanceMethod yX6_matchOf, Cond.selects RX6 yX6_matchOf yX6_matchOf, Cond.code yX6_matchOf cX6_matchOf 6 (some .int), Cond.fieldLink RX6 19 "VowDovesModel" "row" "[I", Cond.fieldLink RX6 22 "VowDovesModel" "bestRow" "[I", Cond.methodLink RX6 158 yX6_layRow, Cond.instanceMethod yX6_layRow, Cond.selects RX6 yX6_layRow yX6_layRow, Cond.code yX6_layRow cX6_layRow 7 (some .int), Cond.methodLink RX6 132 yX6_ones, Cond.static yX6_ones, Cond.code yX6_ones cX6_ones 3 (some .int), Cond.methodLink RX6 161 yX6_copy, Cond.static yX6_copy, Cond.code yX6_copy cX6_copy 3 none, Cond.methodLink RX6 200 yX6_countOf, Cond.instanceMethod yX6_countOf, Cond.selects RX6 yX6_countOf yX6_countOf, Cond.code yX6_countOf cX6_countOf 2 (some .int), Cond.fieldLink RX6 82 "VowDovesModel" "years" "I"]
def wsX6_digest_r5 : List Cond := [Cond.fieldLink RX6 88 "VowDovesModel" "towersRead" "I", Cond.methodLink RX6 194 yX6_birds, Cond.instanceMethod yX6_birds, Cond.selects RX6 yX6_birds yX6_birds, Cond.code yX6_birds cX6_birds 4 (some .int), Cond.methodLink RX6 197 yX6_brokenAll, Cond.instanceMethod yX6_brokenAll, Cond.selects RX6 yX6_brokenAll yX6_brokenAll, Cond.code yX6_brokenAll cX6_brokenAll 3 (some .int)]
def wsX6_digest : List Cond := .code yX6_digest cX6_digest 3 (some .long) :: ((wsX6_digest_r1 ++ (wsX6_digest_r2 ++ (wsX6_digest_r3 ++ (wsX6_digest_r4 ++ wsX6_digest_r5)))) ++ wsX60)
def wsJ9_max_7cf53 : List Cond := .code yJ9_max_7cf53 cJ9_max_7cf53 2 (some .int) :: ([])
def wsJ9_min_7cf53 : List Cond := .code yJ9_min_7cf53 cJ9_min_7cf53 2 (some .int) :: ([])
def wsL_law_r1 : List Cond := [Cond.classLink RL 7 RX5, Cond.instantiable RX5 8, Cond.initialized RX5, Cond.classLink RL 10 RX6, Cond.instantiable RX6 22, Cond.initialized RX6, Cond.methodLink RL 9 yX5_init, Cond.instanceMethod yX5_init, Cond.code yX5_init cX5_init 1 none, Cond.methodLink RX5 1 objectInit, Cond.instanceMethod objectInit, Cond.code objectInit ⟨#[0xb1]⟩ 1 none, Cond.classLink RX5 7 RX4, Cond.instantiable RX4 3, Cond.initialized RX4, Cond.fieldLink RX5 10 "VowDoves" "page" "LVowDoves$Page;", Cond.classLink RX5 16 RX2, Cond.instantiable RX2 5, Cond.initialized RX2, Cond.fieldLink RX5 19 "VowDoves" "cote" "LVowDoves$Cote;", Cond.classLink RX5 23 RX0, Cond.instantiable RX0 9, Cond.initialized RX0, Cond.fieldLink RX5 26 "VowDoves" "book" "LVowDoves$Book;"]
def wsL_law_r2 : List Cond := [Cond.fieldLink RX5 30 "VowDoves" "keptBook" "LVowDoves$Book;", Cond.classLink RX5 33 RX3, Cond.instantiable RX3 6, Cond.initialized RX3, Cond.fieldLink RX5 36 "VowDoves" "matching" "LVowDoves$Matching;", Cond.classLink RX5 40 RX1, Cond.instantiable RX1 3, Cond.initialized RX1, Cond.fieldLink RX5 43 "VowDoves" "run" "LVowDoves$Centuries;", Cond.fieldLink RX5 47 "VowDoves" "isImageKept" "Z", Cond.fieldLink RX5 51 "VowDoves" "towersRead" "I", Cond.instanceMethod yX4_init, Cond.code yX4_init cX4_init 1 none, Cond.methodLink RX4 3 objectInit, Cond.arrayClass .int, Cond.fieldLink RX4 9 "VowDoves$Page" "letters" "[I", Cond.instanceMethod yX2_init, Cond.code yX2_init cX2_init 1 none, Cond.methodLink RX2 3 objectInit, Cond.fieldLink RX2 9 "VowDoves$Cote" "kinds" "[I", Cond.fieldLink RX2 15 "VowDoves$Cote" "faiths" "[I", Cond.fieldLink RX2 18 "VowDoves$Cote" "hards" "[I", Cond.methodLink RX5 25 yX0_init, Cond.instanceMethod yX0_init]
def wsL_law_r3 : List Cond := [Cond.code yX0_init cX0_init 1 none, Cond.methodLink RX0 3 objectInit, Cond.fieldLink RX0 9 "VowDoves$Book" "letTo" "[I", Cond.fieldLink RX0 15 "VowDoves$Book" "birds" "[I", Cond.fieldLink RX0 18 "VowDoves$Book" "eggs" "[I", Cond.fieldLink RX0 21 "VowDoves$Book" "broken" "[I", Cond.fieldLink RX0 24 "VowDoves$Book" "seenKeepers" "[I", Cond.fieldLink RX0 27 "VowDoves$Book" "seenHards" "[I", Cond.arrayClass .boolean, Cond.fieldLink RX0 30 "VowDoves$Book" "seenKept" "[Z", Cond.methodLink RX0 34 yJ7_fill_53178, Cond.static yJ7_fill_53178, Cond.initialized RJ7, Cond.code yJ7_fill_53178 cJ7_fill_53178 4 none, Cond.instanceMethod yX3_init, Cond.code yX3_init cX3_init 1 none, Cond.methodLink RX3 3 objectInit, Cond.classLink RX3 9 "[[I", Cond.fieldLink RX3 11 "VowDoves$Matching" "worth" "[[I", Cond.fieldLink RX3 16 "VowDoves$Matching" "limit" "[I", Cond.fieldLink RX3 20 "VowDoves$Matching" "room" "[I", Cond.fieldLink RX3 23 "VowDoves$Matching" "tried" "[I", Cond.fieldLink RX3 26 "VowDoves$Matching" "best" "[I", Cond.instanceMethod yX1_init]
def wsL_law_r4 : List Cond := [Cond.code yX1_init cX1_init 1 none, Cond.methodLink RX1 3 objectInit, Cond.fieldLink RX1 9 "VowDoves$Centuries" "eggs" "[I", Cond.methodLink RL 12 yX6_init, Cond.instanceMethod yX6_init, Cond.code yX6_init cX6_init 1 none, Cond.methodLink RX6 1 objectInit, Cond.fieldLink RX6 7 "VowDovesModel" "page" "[I", Cond.fieldLink RX6 13 "VowDovesModel" "rows" "[I", Cond.fieldLink RX6 16 "VowDovesModel" "nests" "[I", Cond.fieldLink RX6 19 "VowDovesModel" "row" "[I", Cond.fieldLink RX6 22 "VowDovesModel" "bestRow" "[I", Cond.fieldLink RX6 25 "VowDovesModel" "sights" "[I", Cond.fieldLink RX6 28 "VowDovesModel" "saved" "[I", Cond.fieldLink RX6 31 "VowDovesModel" "keptRows" "[I", Cond.fieldLink RX6 34 "VowDovesModel" "keptNests" "[I", Cond.fieldLink RX6 37 "VowDovesModel" "keptSights" "[I", Cond.fieldLink RX6 40 "VowDovesModel" "keptTower" "I", Cond.methodLink RL 13 yX5_letter, Cond.instanceMethod yX5_letter, Cond.selects RX5 yX5_letter yX5_letter, Cond.code yX5_letter cX5_letter 2 (some .int), Cond.fieldLink RX5 55 "VowDoves$Page" "size" "I", Cond.fieldLink RX5 58 "VowDoves$Page" "letters" "[I"]
def wsL_law_r5 : List Cond := [Cond.methodLink RL 17 yX6_letter, Cond.instanceMethod yX6_letter, Cond.selects RX6 yX6_letter yX6_letter, Cond.code yX6_letter cX6_letter 2 (some .int), Cond.constantLong RX6 44 (126), Cond.fieldLink RX6 50 "VowDovesModel" "pageMany" "I", Cond.methodLink RX6 46 yX6_in, Cond.static yX6_in, Cond.code yX6_in cX6_in 6 (some .boolean), Cond.methodLink RL 18 yX5_blank, Cond.instanceMethod yX5_blank, Cond.selects RX5 yX5_blank yX5_blank, Cond.code yX5_blank cX5_blank 2 (some .int), Cond.methodLink RL 22 yX6_blank, Cond.instanceMethod yX6_blank, Cond.selects RX6 yX6_blank yX6_blank, Cond.code yX6_blank cX6_blank 2 (some .int), Cond.methodLink RL 23 yX5_fault, Cond.instanceMethod yX5_fault, Cond.selects RX5 yX5_fault yX5_fault, Cond.code yX5_fault cX5_fault 1 (some .int), Cond.methodLink RX5 62 yX4_scan, Cond.instanceMethod yX4_scan, Cond.selects RX4 yX4_scan yX4_scan]
def wsL_law_r6 : List Cond := [Cond.code yX4_scan cX4_scan 2 (some .int), Cond.fieldLink RX4 15 "VowDoves$Page" "vowsBegin" "I", Cond.fieldLink RX4 19 "VowDoves$Page" "size" "I", Cond.methodLink RX4 22 yX4_fits, Cond.instanceMethod yX4_fits, Cond.selects RX4 yX4_fits yX4_fits, Cond.code yX4_fits cX4_fits 3 (some .boolean), Cond.methodLink RX4 30 yX4_isDigit, Cond.static yX4_isDigit, Cond.code yX4_isDigit cX4_isDigit 1 (some .boolean), Cond.methodLink RX4 35 yJ0_indexOf_0f7a4, Cond.instanceMethod yJ0_indexOf_0f7a4, Cond.selects RJ0 yJ0_indexOf_0f7a4 yJ0_indexOf_0f7a4, Cond.initialized RJ0, Cond.code yJ0_indexOf_0f7a4 cJ0_indexOf_0f7a4 2 (some .int), Cond.methodLink RJ0 633 yJ0_indexOf_7cf53, Cond.instanceMethod yJ0_indexOf_7cf53, Cond.selects RJ0 yJ0_indexOf_7cf53 yJ0_indexOf_7cf53, Cond.code yJ0_indexOf_7cf53 cJ0_indexOf_7cf53 3 (some .int), Cond.fieldLink RJ0 9 "java/lang/String" "value" "[B", Cond.methodLink RJ0 492 yJ0_isLatin1_aae02, Cond.instanceMethod yJ0_isLatin1_aae02, Cond.selects RJ0 yJ0_isLatin1_aae02 yJ0_isLatin1_aae02, Cond.code yJ0_isLatin1_aae02 cJ0_isLatin1_aae02 1 (some .boolean)]
def wsL_law_r7 : List Cond := [Cond.fieldLink RJ0 38 "java/lang/String" "COMPACT_STRINGS" "Z", Cond.fieldLink RJ0 15 "java/lang/String" "coder" "B", Cond.methodLink RJ0 505 yJ0_length_8abf5, Cond.instanceMethod yJ0_length_8abf5, Cond.selects RJ0 yJ0_length_8abf5 yJ0_length_8abf5, Cond.code yJ0_length_8abf5 cJ0_length_8abf5 1 (some .int), Cond.methodLink RJ0 335 yJ0_coder_7d493, Cond.instanceMethod yJ0_coder_7d493, Cond.selects RJ0 yJ0_coder_7d493 yJ0_coder_7d493, Cond.code yJ0_coder_7d493 cJ0_coder_7d493 1 (some .byte), Cond.methodLink RJ0 637 yJ1_indexOf_4cfef, Cond.static yJ1_indexOf_4cfef, Cond.initialized RJ1, Cond.code yJ1_indexOf_4cfef cJ1_indexOf_4cfef 4 (some .int), Cond.methodLink RJ1 92 Lib.Math.max.name, Cond.static Lib.Math.max.name, Cond.initialized "java/lang/Math", Cond.code Lib.Math.max.name Lib.Math.max.code 2 (some .int), Cond.methodLink RJ1 38 Lib.Math.min.name, Cond.static Lib.Math.min.name, Cond.code Lib.Math.min.name Lib.Math.min.code 2 (some .int), Cond.methodLink RJ1 88 yJ1_canEncode_9a6ad, Cond.static yJ1_canEncode_9a6ad, Cond.code yJ1_canEncode_9a6ad cJ1_canEncode_9a6ad 1 (some .boolean)]
def wsL_law_r8 : List Cond := [Cond.methodLink RJ1 95 yJ1_indexOfChar_4cfef, Cond.static yJ1_indexOfChar_4cfef, Cond.code yJ1_indexOfChar_4cfef cJ1_indexOfChar_4cfef 6 (some .int), Cond.methodLink RJ0 640 yJ2_indexOf_4cfef, Cond.static yJ2_indexOf_4cfef, Cond.initialized RJ2, Cond.code yJ2_indexOf_4cfef cJ2_indexOf_4cfef 4 (some .int), Cond.methodLink RJ2 224 Lib.Math.max.name, Cond.methodLink RJ2 183 Lib.Math.min.name, Cond.constant RJ2 227 (65536), Cond.methodLink RJ2 228 yJ2_indexOfChar_4cfef, Cond.static yJ2_indexOfChar_4cfef, Cond.code yJ2_indexOfChar_4cfef cJ2_indexOfChar_4cfef 4 (some .int), Cond.methodLink RJ2 96 yJ2_checkBoundsBeginEnd_d044e, Cond.static yJ2_checkBoundsBeginEnd_d044e, Cond.code yJ2_checkBoundsBeginEnd_d044e cJ2_checkBoundsBeginEnd_d044e 3 none, Cond.methodLink RJ2 48 yJ2_length_9d52b, Cond.static yJ2_length_9d52b, Cond.code yJ2_length_9d52b cJ2_length_9d52b 1 (some .int), Cond.methodLink RJ2 241 yJ0_checkBoundsBeginEnd_23922, Cond.static yJ0_checkBoundsBeginEnd_23922, Cond.code yJ0_checkBoundsBeginEnd_23922 cJ0_checkBoundsBeginEnd_23922 3 none, Cond.fieldLink RJ0 1053 "jdk/internal/util/Preconditions" "SIOOBE_FORMATTER" "Ljava/util/function/BiFunction;", Cond.methodLink RJ0 1062 yJ3_checkFromToIndex_8c36e]
def wsL_law_r9 : List Cond := [Cond.static yJ3_checkFromToIndex_8c36e, Cond.initialized RJ3, Cond.code yJ3_checkFromToIndex_8c36e cJ3_checkFromToIndex_8c36e 4 (some .int), Cond.methodLink RJ2 244 yJ2_indexOfCharUnsafe_4cfef, Cond.static yJ2_indexOfCharUnsafe_4cfef, Cond.code yJ2_indexOfCharUnsafe_4cfef cJ2_indexOfCharUnsafe_4cfef 5 (some .int), Cond.methodLink RJ2 71 yJ2_getChar_3b067, Cond.static yJ2_getChar_3b067, Cond.code yJ2_getChar_3b067 cJ2_getChar_3b067 2 (some .char), Cond.fieldLink RJ2 44 "java/lang/StringUTF16" "$assertionsDisabled" "Z", Cond.fieldLink RJ2 59 "java/lang/StringUTF16" "HI_BYTE_SHIFT" "I", Cond.fieldLink RJ2 63 "java/lang/StringUTF16" "LO_BYTE_SHIFT" "I", Cond.methodLink RJ2 232 yJ2_indexOfSupplementary_4cfef, Cond.static yJ2_indexOfSupplementary_4cfef, Cond.code yJ2_indexOfSupplementary_4cfef cJ2_indexOfSupplementary_4cfef 7 (some .int), Cond.methodLink RJ2 164 yJ11_isValidCodePoint_9a6ad, Cond.static yJ11_isValidCodePoint_9a6ad, Cond.initialized RJ11, Cond.code yJ11_isValidCodePoint_9a6ad cJ11_isValidCodePoint_9a6ad 2 (some .boolean), Cond.methodLink RJ2 157 yJ11_highSurrogate_5068e, Cond.static yJ11_highSurrogate_5068e, Cond.code yJ11_highSurrogate_5068e cJ11_highSurrogate_5068e 1 (some .char), Cond.constant RJ11 110 (55232), Cond.methodLink RJ2 161 yJ11_lowSurrogate_5068e]
def wsL_law_r10 : List Cond := [Cond.static yJ11_lowSurrogate_5068e, Cond.code yJ11_lowSurrogate_5068e cJ11_lowSurrogate_5068e 1 (some .char), Cond.constant RJ11 76 (56320), Cond.methodLink RX4 41 yX4_endsKeeper, Cond.instanceMethod yX4_endsKeeper, Cond.selects RX4 yX4_endsKeeper yX4_endsKeeper, Cond.code yX4_endsKeeper cX4_endsKeeper 4 (some .boolean), Cond.methodLink RL 26 yX6_fault, Cond.instanceMethod yX6_fault, Cond.selects RX6 yX6_fault yX6_fault, Cond.code yX6_fault cX6_fault 1 (some .int), Cond.methodLink RX6 68 yX6_faultOf, Cond.instanceMethod yX6_faultOf, Cond.selects RX6 yX6_faultOf yX6_faultOf, Cond.code yX6_faultOf cX6_faultOf 2 (some .int), Cond.fieldLink RX6 53 "VowDovesModel" "endAt" "I", Cond.methodLink RX6 64 yX6_isGood, Cond.instanceMethod yX6_isGood, Cond.selects RX6 yX6_isGood yX6_isGood, Cond.code yX6_isGood cX6_isGood 3 (some .boolean), Cond.constantLong RX6 56 (48), Cond.constantLong RX6 58 (57), Cond.methodLink RX6 60 yX6_kindBy, Cond.static yX6_kindBy]
def wsL_law_r11 : List Cond := [Cond.code yX6_kindBy cX6_kindBy 1 (some .int), Cond.methodLink RL 27 yX5_tower, Cond.instanceMethod yX5_tower, Cond.selects RX5 yX5_tower yX5_tower, Cond.code yX5_tower cX5_tower 1 (some .int), Cond.fieldLink RX5 77 "VowDoves$Cote" "holes" "I", Cond.methodLink RX5 66 yX4_isTower, Cond.instanceMethod yX4_isTower, Cond.selects RX4 yX4_isTower yX4_isTower, Cond.code yX4_isTower cX4_isTower 1 (some .boolean), Cond.methodLink RX4 26 yX4_scan, Cond.methodLink RX5 70 yX2_readFrom, Cond.instanceMethod yX2_readFrom, Cond.selects RX2 yX2_readFrom yX2_readFrom, Cond.code yX2_readFrom cX2_readFrom 3 none, Cond.fieldLink RX2 21 "VowDoves$Page" "vowsBegin" "I", Cond.methodLink RX2 27 Lib.Math.min.name, Cond.fieldLink RX2 33 "VowDoves$Cote" "keepers" "I", Cond.fieldLink RX2 36 "VowDoves$Page" "size" "I", Cond.fieldLink RX2 39 "VowDoves$Cote" "holes" "I", Cond.fieldLink RX2 44 "VowDoves$Page" "letters" "[I", Cond.methodLink RX2 47 yJ0_indexOf_0f7a4, Cond.methodLink RX5 74 yX0_clear, Cond.instanceMethod yX0_clear]
def wsL_law_r12 : List Cond := [Cond.selects RX0 yX0_clear yX0_clear, Cond.code yX0_clear cX0_clear 2 none, Cond.fieldLink RX0 44 "VowDoves$Book" "seen" "I", Cond.fieldLink RX0 48 "VowDoves$Book" "years" "I", Cond.methodLink RX0 40 yX0_empty, Cond.instanceMethod yX0_empty, Cond.selects RX0 yX0_empty yX0_empty, Cond.code yX0_empty cX0_empty 3 none, Cond.methodLink RL 30 yX6_tower, Cond.instanceMethod yX6_tower, Cond.selects RX6 yX6_tower yX6_tower, Cond.code yX6_tower cX6_tower 2 (some .int), Cond.fieldLink RX6 72 "VowDovesModel" "keepers" "I", Cond.fieldLink RX6 75 "VowDovesModel" "holes" "I", Cond.fieldLink RX6 82 "VowDovesModel" "years" "I", Cond.fieldLink RX6 85 "VowDovesModel" "seenMany" "I", Cond.fieldLink RX6 88 "VowDovesModel" "towersRead" "I", Cond.methodLink RX6 78 yX6_empty, Cond.instanceMethod yX6_empty, Cond.selects RX6 yX6_empty yX6_empty, Cond.code yX6_empty cX6_empty 2 none, Cond.methodLink RL 31 yX5_keeper, Cond.instanceMethod yX5_keeper, Cond.selects RX5 yX5_keeper yX5_keeper]
def wsL_law_r13 : List Cond := [Cond.code yX5_keeper cX5_keeper 3 (some .int), Cond.fieldLink RX5 84 "VowDoves$Cote" "kinds" "[I", Cond.fieldLink RX5 87 "VowDoves$Cote" "faiths" "[I", Cond.fieldLink RX5 97 "VowDoves$Book" "broken" "[I", Cond.methodLink RX5 80 yX2_hasKeeper, Cond.instanceMethod yX2_hasKeeper, Cond.selects RX2 yX2_hasKeeper yX2_hasKeeper, Cond.code yX2_hasKeeper cX2_hasKeeper 2 (some .boolean), Cond.methodLink RX5 90 yX0_holesOf, Cond.instanceMethod yX0_holesOf, Cond.selects RX0 yX0_holesOf yX0_holesOf, Cond.code yX0_holesOf cX0_holesOf 4 (some .int), Cond.methodLink RX5 94 yX0_eggsOf, Cond.instanceMethod yX0_eggsOf, Cond.selects RX0 yX0_eggsOf yX0_eggsOf, Cond.code yX0_eggsOf cX0_eggsOf 4 (some .int), Cond.methodLink RX5 100 yX5_possibleFaiths, Cond.instanceMethod yX5_possibleFaiths, Cond.selects RX5 yX5_possibleFaiths yX5_possibleFaiths, Cond.code yX5_possibleFaiths cX5_possibleFaiths 4 (some .int), Cond.methodLink RX5 241 yX5_likelihood, Cond.instanceMethod yX5_likelihood, Cond.selects RX5 yX5_likelihood yX5_likelihood, Cond.code yX5_likelihood cX5_likelihood 7 (some .long)]
def wsL_law_r14 : List Cond := [Cond.fieldLink RX5 170 "VowDoves$Book" "seen" "I", Cond.fieldLink RX5 173 "VowDoves$Book" "seenKeepers" "[I", Cond.fieldLink RX5 176 "VowDoves$Book" "seenHards" "[I", Cond.fieldLink RX5 179 "VowDoves$Book" "seenKept" "[Z", Cond.methodLink RX5 244 yX5_yearsKeptBy, Cond.static yX5_yearsKeptBy, Cond.code yX5_yearsKeptBy cX5_yearsKeptBy 6 (some .int), Cond.methodLink RX5 248 Lib.Math.min.name, Cond.methodLink RX5 253 Lib.Math.max.name, Cond.methodLink RX5 106 yX5_isOfKind, Cond.static yX5_isOfKind, Cond.code yX5_isOfKind cX5_isOfKind 2 (some .boolean), Cond.methodLink RX5 103 yX5_likelyFaith, Cond.instanceMethod yX5_likelyFaith, Cond.selects RX5 yX5_likelyFaith yX5_likelyFaith, Cond.code yX5_likelyFaith cX5_likelyFaith 8 (some .int), Cond.methodLink RL 35 yX6_keeper, Cond.instanceMethod yX6_keeper, Cond.selects RX6 yX6_keeper yX6_keeper, Cond.code yX6_keeper cX6_keeper 3 (some .int), Cond.methodLink RX6 107 yX6_isKeeper, Cond.instanceMethod yX6_isKeeper, Cond.selects RX6 yX6_isKeeper yX6_isKeeper, Cond.code yX6_isKeeper cX6_isKeeper 2 (some .boolean)]
def wsL_law_r15 : List Cond := [Cond.methodLink RX6 110 yX6_tellKeeper, Cond.instanceMethod yX6_tellKeeper, Cond.selects RX6 yX6_tellKeeper yX6_tellKeeper, Cond.code yX6_tellKeeper cX6_tellKeeper 3 (some .int), Cond.methodLink RX6 95 yX6_setOf, Cond.instanceMethod yX6_setOf, Cond.selects RX6 yX6_setOf yX6_setOf, Cond.code yX6_setOf cX6_setOf 4 (some .int), Cond.methodLink RX6 98 yX6_eggsIn, Cond.instanceMethod yX6_eggsIn, Cond.selects RX6 yX6_eggsIn yX6_eggsIn, Cond.code yX6_eggsIn cX6_eggsIn 4 (some .int), Cond.methodLink RX6 101 yX6_faithsOf, Cond.instanceMethod yX6_faithsOf, Cond.selects RX6 yX6_faithsOf yX6_faithsOf, Cond.code yX6_faithsOf cX6_faithsOf 4 (some .int), Cond.methodLink RX6 170 yX6_waysBy, Cond.instanceMethod yX6_waysBy, Cond.selects RX6 yX6_waysBy yX6_waysBy, Cond.code yX6_waysBy cX6_waysBy 7 (some .long), Cond.methodLink RX6 91 yX6_tenthsBy, Cond.static yX6_tenthsBy, Cond.code yX6_tenthsBy cX6_tenthsBy 4 (some .int), Cond.methodLink RX6 104 yX6_likelyOf]
def wsL_law_r16 : List Cond := [Cond.instanceMethod yX6_likelyOf, Cond.selects RX6 yX6_likelyOf yX6_likelyOf, Cond.code yX6_likelyOf cX6_likelyOf 8 (some .int), Cond.methodLink RL 36 yX5_as, Cond.instanceMethod yX5_as, Cond.selects RX5 yX5_as yX5_as, Cond.code yX5_as cX5_as 3 (some .int), Cond.methodLink RL 39 yX6_as, Cond.instanceMethod yX6_as, Cond.selects RX6 yX6_as yX6_as, Cond.code yX6_as cX6_as 5 (some .int), Cond.constantLong RX6 114 (4), Cond.methodLink RL 40 yX5_keeps, Cond.instanceMethod yX5_keeps, Cond.selects RX5 yX5_keeps yX5_keeps, Cond.code yX5_keeps cX5_keeps 3 (some .int), Cond.methodLink RX5 110 yX2_yearsKept, Cond.instanceMethod yX2_yearsKept, Cond.selects RX2 yX2_yearsKept yX2_yearsKept, Cond.code yX2_yearsKept cX2_yearsKept 3 (some .int), Cond.methodLink RX2 53 yX2_hasKeeper, Cond.methodLink RL 43 yX6_keeps, Cond.instanceMethod yX6_keeps, Cond.selects RX6 yX6_keeps yX6_keeps]
def wsL_law_r17 : List Cond := [Cond.code yX6_keeps cX6_keeps 3 (some .int), Cond.constantLong RX6 116 (9), Cond.methodLink RX6 118 yX6_tenthsOf, Cond.instanceMethod yX6_tenthsOf, Cond.selects RX6 yX6_tenthsOf yX6_tenthsOf, Cond.code yX6_tenthsOf cX6_tenthsOf 3 (some .int), Cond.methodLink RL 44 yX5_hole, Cond.instanceMethod yX5_hole, Cond.selects RX5 yX5_hole yX5_hole, Cond.code yX5_hole cX5_hole 3 (some .int), Cond.fieldLink RX5 117 "VowDoves$Cote" "hards" "[I", Cond.fieldLink RX5 120 "VowDoves$Book" "letTo" "[I", Cond.fieldLink RX5 123 "VowDoves$Book" "birds" "[I", Cond.fieldLink RX5 126 "VowDoves$Book" "eggs" "[I", Cond.methodLink RX5 114 yX2_hasHole, Cond.instanceMethod yX2_hasHole, Cond.selects RX2 yX2_hasHole yX2_hasHole, Cond.code yX2_hasHole cX2_hasHole 2 (some .boolean), Cond.methodLink RL 47 yX6_hole, Cond.instanceMethod yX6_hole, Cond.selects RX6 yX6_hole yX6_hole, Cond.code yX6_hole cX6_hole 3 (some .int), Cond.methodLink RX6 126 yX6_isHole, Cond.instanceMethod yX6_isHole]
def wsL_law_r18 : List Cond := [Cond.selects RX6 yX6_isHole yX6_isHole, Cond.code yX6_isHole cX6_isHole 2 (some .boolean), Cond.methodLink RX6 129 yX6_tellHole, Cond.instanceMethod yX6_tellHole, Cond.selects RX6 yX6_tellHole yX6_tellHole, Cond.code yX6_tellHole cX6_tellHole 3 (some .int), Cond.constantLong RX6 121 (3), Cond.methodLink RX6 123 yX6_tenthsIn, Cond.instanceMethod yX6_tenthsIn, Cond.selects RX6 yX6_tenthsIn yX6_tenthsIn, Cond.code yX6_tenthsIn cX6_tenthsIn 2 (some .int), Cond.methodLink RL 48 yX5_let, Cond.instanceMethod yX5_let, Cond.selects RX5 yX5_let yX5_let, Cond.code yX5_let cX5_let 3 (some .int), Cond.methodLink RX5 129 yX0_roomOf, Cond.instanceMethod yX0_roomOf, Cond.selects RX0 yX0_roomOf yX0_roomOf, Cond.code yX0_roomOf cX0_roomOf 2 (some .int), Cond.methodLink RX0 57 yX0_holesOf, Cond.methodLink RX0 61 yJ6_bitCount_0f7a4, Cond.static yJ6_bitCount_0f7a4, Cond.initialized RJ6, Cond.code yJ6_bitCount_0f7a4 cJ6_bitCount_0f7a4 1 (some .int)]
def wsL_law_r19 : List Cond := [Cond.constant RJ6 265 (1431655765), Cond.constant RJ6 266 (858993459), Cond.constant RJ6 267 (252645135), Cond.methodLink RX5 132 yJ6_bitCount_0f7a4, Cond.methodLink RL 51 yX6_let, Cond.instanceMethod yX6_let, Cond.selects RX6 yX6_let yX6_let, Cond.code yX6_let cX6_let 3 (some .int), Cond.methodLink RX6 132 yX6_ones, Cond.static yX6_ones, Cond.code yX6_ones cX6_ones 3 (some .int), Cond.methodLink RL 52 yX5_leave, Cond.instanceMethod yX5_leave, Cond.selects RX5 yX5_leave yX5_leave, Cond.code yX5_leave cX5_leave 3 (some .int), Cond.methodLink RX5 137 yX0_empty, Cond.methodLink RL 55 yX6_leave, Cond.instanceMethod yX6_leave, Cond.selects RX6 yX6_leave yX6_leave, Cond.code yX6_leave cX6_leave 3 (some .int), Cond.methodLink RL 56 yX5_year, Cond.instanceMethod yX5_year, Cond.selects RX5 yX5_year yX5_year, Cond.code yX5_year cX5_year 5 (some .int)]
def wsL_law_r20 : List Cond := [Cond.fieldLink RX5 144 "VowDoves$Book" "years" "I", Cond.methodLink RX5 141 yX2_stands, Cond.instanceMethod yX2_stands, Cond.selects RX2 yX2_stands yX2_stands, Cond.code yX2_stands cX2_stands 1 (some .boolean), Cond.methodLink RX5 147 yX2_eggsOfAYear, Cond.instanceMethod yX2_eggsOfAYear, Cond.selects RX2 yX2_eggsOfAYear yX2_eggsOfAYear, Cond.code yX2_eggsOfAYear cX2_eggsOfAYear 2 (some .int), Cond.methodLink RL 59 yX6_year, Cond.instanceMethod yX6_year, Cond.selects RX6 yX6_year yX6_year, Cond.code yX6_year cX6_year 5 (some .int), Cond.methodLink RX6 135 yX6_lacks, Cond.instanceMethod yX6_lacks, Cond.selects RX6 yX6_lacks yX6_lacks, Cond.code yX6_lacks cX6_lacks 1 (some .boolean), Cond.methodLink RX6 139 yX6_keepVow, Cond.instanceMethod yX6_keepVow, Cond.selects RX6 yX6_keepVow yX6_keepVow, Cond.code yX6_keepVow cX6_keepVow 2 none, Cond.methodLink RL 60 yX5_forgive, Cond.instanceMethod yX5_forgive, Cond.selects RX5 yX5_forgive yX5_forgive]
def wsL_law_r21 : List Cond := [Cond.code yX5_forgive cX5_forgive 3 (some .int), Cond.methodLink RL 63 yX6_forgive, Cond.instanceMethod yX6_forgive, Cond.selects RX6 yX6_forgive yX6_forgive, Cond.code yX6_forgive cX6_forgive 3 (some .int), Cond.methodLink RL 64 yX5_odds, Cond.instanceMethod yX5_odds, Cond.selects RX5 yX5_odds yX5_odds, Cond.code yX5_odds cX5_odds 13 (some .long), Cond.constantLong RX5 150 (-102), Cond.constantLong RX5 152 (-103), Cond.constantLong RX5 154 (10), Cond.methodLink RX5 156 yX5_greatestDivisor, Cond.static yX5_greatestDivisor, Cond.code yX5_greatestDivisor cX5_greatestDivisor 11 (some .long), Cond.methodLink RL 68 yX6_odds, Cond.instanceMethod yX6_odds, Cond.selects RX6 yX6_odds yX6_odds, Cond.code yX6_odds cX6_odds 3 (some .long), Cond.constantLong RX6 148 (2), Cond.constantLong RX6 150 (-102), Cond.constantLong RX6 152 (-103), Cond.methodLink RX6 154 yX6_oddsOf, Cond.instanceMethod yX6_oddsOf]
def wsL_law_r22 : List Cond := [Cond.selects RX6 yX6_oddsOf yX6_oddsOf, Cond.code yX6_oddsOf cX6_oddsOf 9 (some .long), Cond.constantLong RX6 142 (10), Cond.methodLink RX6 144 yX6_common, Cond.static yX6_common, Cond.code yX6_common cX6_common 10 (some .long), Cond.methodLink RL 69 yX5_match, Cond.instanceMethod yX5_match, Cond.selects RX5 yX5_match yX5_match, Cond.code yX5_match cX5_match 2 (some .int), Cond.fieldLink RX5 164 "VowDoves$Matching" "most" "I", Cond.fieldLink RX5 167 "VowDoves$Matching" "best" "[I", Cond.methodLink RX5 160 yX3_solve, Cond.instanceMethod yX3_solve, Cond.selects RX3 yX3_solve yX3_solve, Cond.code yX3_solve cX3_solve 5 none, Cond.fieldLink RX3 44 "VowDoves$Book" "birds" "[I", Cond.fieldLink RX3 51 "VowDoves$Matching" "most" "I", Cond.methodLink RX3 29 yX2_hasKeeper, Cond.methodLink RX3 35 yX0_roomOf, Cond.methodLink RX3 41 yX2_hasHole, Cond.methodLink RX3 47 yX3_weigh, Cond.instanceMethod yX3_weigh, Cond.selects RX3 yX3_weigh yX3_weigh]
def wsL_law_r23 : List Cond := [Cond.code yX3_weigh cX3_weigh 6 (some .int), Cond.fieldLink RX3 59 "VowDoves$Cote" "hards" "[I", Cond.methodLink RX3 66 Lib.Math.max.name, Cond.methodLink RX3 62 yX2_yearsKept, Cond.methodLink RX3 55 yX3_search, Cond.static yX3_search, Cond.code yX3_search cX3_search 4 none, Cond.methodLink RX3 71 arraycopyName, Cond.native arraycopyName, Cond.static arraycopyName, Cond.initialized "java/lang/System", Cond.methodLink RL 72 yX6_match, Cond.instanceMethod yX6_match, Cond.selects RX6 yX6_match yX6_match, Cond.code yX6_match cX6_match 2 (some .int), Cond.constantLong RX6 165 (14), Cond.methodLink RX6 167 yX6_matchOf, Cond.instanceMethod yX6_matchOf, Cond.selects RX6 yX6_matchOf yX6_matchOf, Cond.code yX6_matchOf cX6_matchOf 6 (some .int), Cond.methodLink RX6 158 yX6_layRow, Cond.instanceMethod yX6_layRow, Cond.selects RX6 yX6_layRow yX6_layRow, Cond.code yX6_layRow cX6_layRow 7 (some .int)]
def wsL_law_r24 : List Cond := [Cond.methodLink RX6 161 yX6_copy, Cond.static yX6_copy, Cond.code yX6_copy cX6_copy 3 none, Cond.methodLink RL 73 yX5_see, Cond.instanceMethod yX5_see, Cond.selects RX5 yX5_see yX5_see, Cond.code yX5_see cX5_see 4 (some .int), Cond.methodLink RL 77 yX6_see, Cond.instanceMethod yX6_see, Cond.selects RX6 yX6_see yX6_see, Cond.code yX6_see cX6_see 4 (some .int), Cond.methodLink RL 78 yX5_forget, Cond.instanceMethod yX5_forget, Cond.selects RX5 yX5_forget yX5_forget, Cond.code yX5_forget cX5_forget 2 (some .int), Cond.methodLink RL 81 yX6_forget, Cond.instanceMethod yX6_forget, Cond.selects RX6 yX6_forget yX6_forget, Cond.code yX6_forget cX6_forget 2 (some .int), Cond.methodLink RL 82 yX5_centuries, Cond.instanceMethod yX5_centuries, Cond.selects RX5 yX5_centuries yX5_centuries, Cond.code yX5_centuries cX5_centuries 4 (some .int), Cond.fieldLink RX5 187 "VowDoves$Centuries" "broken" "I"]
def wsL_law_r25 : List Cond := [Cond.fieldLink RX5 192 "VowDoves$Centuries" "seed" "J", Cond.methodLink RX5 183 yX1_pass, Cond.instanceMethod yX1_pass, Cond.selects RX1 yX1_pass yX1_pass, Cond.code yX1_pass cX1_pass 7 none, Cond.fieldLink RX1 15 "VowDoves$Book" "eggs" "[I", Cond.methodLink RX1 18 arraycopyName, Cond.fieldLink RX1 24 "VowDoves$Centuries" "broken" "I", Cond.fieldLink RX1 28 "VowDoves$Centuries" "seed" "J", Cond.fieldLink RX1 32 "VowDoves$Cote" "holes" "I", Cond.fieldLink RX1 37 "VowDoves$Book" "birds" "[I", Cond.fieldLink RX1 40 "VowDoves$Book" "letTo" "[I", Cond.methodLink RX1 43 yX1_passYear, Cond.instanceMethod yX1_passYear, Cond.selects RX1 yX1_passYear yX1_passYear, Cond.code yX1_passYear cX1_passYear 4 none, Cond.fieldLink RX1 55 "VowDoves$Cote" "hards" "[I", Cond.methodLink RX1 51 yX1_drawOfTen, Cond.instanceMethod yX1_drawOfTen, Cond.selects RX1 yX1_drawOfTen yX1_drawOfTen, Cond.code yX1_drawOfTen cX1_drawOfTen 1 (some .long), Cond.constantLong RX1 66 (1103515245), Cond.constantLong RX1 68 (12345), Cond.constantLong RX1 70 (2147483647)]
def wsL_law_r26 : List Cond := [Cond.constantLong RX1 72 (65536), Cond.constantLong RX1 74 (10), Cond.methodLink RX1 58 yX2_yearsKept, Cond.methodLink RX1 62 yX2_eggsOfAYear, Cond.methodLink RX5 189 yX1_allEggs, Cond.instanceMethod yX1_allEggs, Cond.selects RX1 yX1_allEggs yX1_allEggs, Cond.code yX1_allEggs cX1_allEggs 1 (some .int), Cond.static yX5_sum, Cond.code yX5_sum cX5_sum 6 (some .int), Cond.methodLink RL 86 yX6_centuries, Cond.instanceMethod yX6_centuries, Cond.selects RX6 yX6_centuries yX6_centuries, Cond.code yX6_centuries cX6_centuries 8 (some .int), Cond.constantLong RX6 183 (60), Cond.fieldLink RX6 175 "VowDovesModel" "seedNow" "I", Cond.methodLink RX6 185 yX6_draw, Cond.instanceMethod yX6_draw, Cond.selects RX6 yX6_draw yX6_draw, Cond.code yX6_draw cX6_draw 2 (some .int), Cond.constantLong RX6 173 (1103515245), Cond.constantLong RX6 178 (12345), Cond.constantLong RX6 180 (2147483647), Cond.constant RX6 182 (65536)]
def wsL_law_r27 : List Cond := [Cond.methodLink RL 87 yX5_image, Cond.instanceMethod yX5_image, Cond.selects RX5 yX5_image yX5_image, Cond.code yX5_image cX5_image 1 (some .int), Cond.methodLink RX5 196 yX0_copyFrom, Cond.instanceMethod yX0_copyFrom, Cond.selects RX0 yX0_copyFrom yX0_copyFrom, Cond.code yX0_copyFrom cX0_copyFrom 2 none, Cond.methodLink RX0 51 arraycopyName, Cond.methodLink RL 90 yX6_image, Cond.instanceMethod yX6_image, Cond.selects RX6 yX6_image yX6_image, Cond.code yX6_image cX6_image 1 (some .int), Cond.fieldLink RX6 188 "VowDovesModel" "keptYears" "I", Cond.fieldLink RX6 191 "VowDovesModel" "keptSeen" "I", Cond.methodLink RL 91 yX5_restore, Cond.instanceMethod yX5_restore, Cond.selects RX5 yX5_restore yX5_restore, Cond.code yX5_restore cX5_restore 1 (some .int), Cond.methodLink RL 94 yX6_restore, Cond.instanceMethod yX6_restore, Cond.selects RX6 yX6_restore yX6_restore, Cond.code yX6_restore cX6_restore 1 (some .int), Cond.methodLink RL 95 yX5_count]
def wsL_law_r28 : List Cond := [Cond.instanceMethod yX5_count, Cond.selects RX5 yX5_count yX5_count, Cond.code yX5_count cX5_count 2 (some .int), Cond.fieldLink RX5 200 "VowDoves$Cote" "keepers" "I", Cond.methodLink RX5 203 yX0_holesWith, Cond.instanceMethod yX0_holesWith, Cond.selects RX0 yX0_holesWith yX0_holesWith, Cond.code yX0_holesWith cX0_holesWith 7 (some .int), Cond.methodLink RX5 206 yX5_sum, Cond.methodLink RL 98 yX6_count, Cond.instanceMethod yX6_count, Cond.selects RX6 yX6_count yX6_count, Cond.code yX6_count cX6_count 2 (some .int), Cond.methodLink RX6 200 yX6_countOf, Cond.instanceMethod yX6_countOf, Cond.selects RX6 yX6_countOf yX6_countOf, Cond.code yX6_countOf cX6_countOf 2 (some .int), Cond.methodLink RX6 194 yX6_birds, Cond.instanceMethod yX6_birds, Cond.selects RX6 yX6_birds yX6_birds, Cond.code yX6_birds cX6_birds 4 (some .int), Cond.methodLink RX6 197 yX6_brokenAll, Cond.instanceMethod yX6_brokenAll, Cond.selects RX6 yX6_brokenAll yX6_brokenAll]
def wsL_law_r29 : List Cond := [Cond.code yX6_brokenAll cX6_brokenAll 3 (some .int), Cond.methodLink RL 99 yX5_digest, Cond.instanceMethod yX5_digest, Cond.selects RX5 yX5_digest yX5_digest, Cond.code yX5_digest cX5_digest 5 (some .long), Cond.constantLong RX5 210 (1063), Cond.methodLink RX5 212 yX5_digestKeeper, Cond.instanceMethod yX5_digestKeeper, Cond.selects RX5 yX5_digestKeeper yX5_digestKeeper, Cond.code yX5_digestKeeper cX5_digestKeeper 7 (some .long), Cond.methodLink RX5 229 yX5_keeper, Cond.methodLink RX5 219 yX5_digestNumber, Cond.static yX5_digestNumber, Cond.code yX5_digestNumber cX5_digestNumber 4 (some .long), Cond.constantLong RX5 239 (31), Cond.methodLink RX5 232 yX5_keeps, Cond.methodLink RX5 216 yX5_hole, Cond.methodLink RX5 222 yX5_digestWhatWouldBe, Cond.instanceMethod yX5_digestWhatWouldBe, Cond.selects RX5 yX5_digestWhatWouldBe yX5_digestWhatWouldBe, Cond.code yX5_digestWhatWouldBe cX5_digestWhatWouldBe 6 (some .long), Cond.methodLink RX5 235 yX5_odds, Cond.methodLink RX5 226 yX5_count, Cond.methodLink RL 103 yX6_digest]
def wsL_law_r30 : List Cond := [Cond.instanceMethod yX6_digest, Cond.selects RX6 yX6_digest yX6_digest, Cond.code yX6_digest cX6_digest 3 (some .long), Cond.constantLong RX6 213 (1063), Cond.fieldLink RX6 205 "VowDovesModel" "hash" "J", Cond.methodLink RX6 215 yX6_sayKeeper, Cond.instanceMethod yX6_sayKeeper, Cond.selects RX6 yX6_sayKeeper yX6_sayKeeper, Cond.code yX6_sayKeeper cX6_sayKeeper 3 none, Cond.methodLink RX6 209 yX6_say, Cond.instanceMethod yX6_say, Cond.selects RX6 yX6_say yX6_say, Cond.code yX6_say cX6_say 3 none, Cond.constantLong RX6 203 (31)]
def wsL_law : List Cond := (wsL_law_r1 ++ (wsL_law_r2 ++ (wsL_law_r3 ++ (wsL_law_r4 ++ (wsL_law_r5 ++ (wsL_law_r6 ++ (wsL_law_r7 ++ (wsL_law_r8 ++ (wsL_law_r9 ++ (wsL_law_r10 ++ (wsL_law_r11 ++ (wsL_law_r12 ++ (wsL_law_r13 ++ (wsL_law_r14 ++ (wsL_law_r15 ++ (wsL_law_r16 ++ (wsL_law_r17 ++ (wsL_law_r18 ++ (wsL_law_r19 ++ (wsL_law_r20 ++ (wsL_law_r21 ++ (wsL_law_r22 ++ (wsL_law_r23 ++ (wsL_law_r24 ++ (wsL_law_r25 ++ (wsL_law_r26 ++ (wsL_law_r27 ++ (wsL_law_r28 ++ (wsL_law_r29 ++ wsL_law_r30))))))))))))))))))))))))))))) ++ wsX50 ++ wsX60 ++ wsX40 ++ wsX20 ++ wsX00 ++ wsX30 ++ wsX10 ++ ([] : List Cond)
end
section
set_option maxRecDepth 20000 in
theorem ggX0_init_J7_fill_53178 : GoodIn wsX0_init wsJ7_fill_53178 := goodIn_r _ [16] (by decide +kernel) (by decide +kernel)
set_option maxRecDepth 20000 in
theorem gX0_init_J7_fill_53178 : GoodIn wsX0_init (va_wsS RX0 34 yJ7_fill_53178 wsJ7_fill_53178) := goodIn_app (goodIn_of _ (by decide +kernel)) ggX0_init_J7_fill_53178
theorem dX0_init_0 : decode cX0_init 0 = .ok (.aload_n 0, 1) := by decide +kernel
theorem dX0_init_1 : decode cX0_init 1 = .ok (.invokespecial 3, 3) := by decide +kernel
theorem dX0_init_4 : decode cX0_init 4 = .ok (.aload_n 0, 1) := by decide +kernel
theorem dX0_init_5 : decode cX0_init 5 = .ok (.iconst 5, 1) := by decide +kernel
theorem dX0_init_6 : decode cX0_init 6 = .ok (.newarray .int, 2) := by decide +kernel
theorem dX0_init_8 : decode cX0_init 8 = .ok (.putfield 9, 3) := by decide +kernel
theorem dX0_init_11 : decode cX0_init 11 = .ok (.aload_n 0, 1) := by decide +kernel
theorem dX0_init_12 : decode cX0_init 12 = .ok (.iconst 5, 1) := by decide +kernel
theorem dX0_init_13 : decode cX0_init 13 = .ok (.newarray .int, 2) := by decide +kernel
theorem dX0_init_15 : decode cX0_init 15 = .ok (.putfield 15, 3) := by decide +kernel
theorem dX0_init_18 : decode cX0_init 18 = .ok (.aload_n 0, 1) := by decide +kernel
theorem dX0_init_19 : decode cX0_init 19 = .ok (.iconst 5, 1) := by decide +kernel
theorem dX0_init_20 : decode cX0_init 20 = .ok (.newarray .int, 2) := by decide +kernel
theorem dX0_init_22 : decode cX0_init 22 = .ok (.putfield 18, 3) := by decide +kernel
theorem dX0_init_25 : decode cX0_init 25 = .ok (.aload_n 0, 1) := by decide +kernel
theorem dX0_init_26 : decode cX0_init 26 = .ok (.iconst 5, 1) := by decide +kernel
theorem dX0_init_27 : decode cX0_init 27 = .ok (.newarray .int, 2) := by decide +kernel
theorem dX0_init_29 : decode cX0_init 29 = .ok (.putfield 21, 3) := by decide +kernel
theorem dX0_init_32 : decode cX0_init 32 = .ok (.aload_n 0, 1) := by decide +kernel
theorem dX0_init_33 : decode cX0_init 33 = .ok (.bipush 8, 2) := by decide +kernel
theorem dX0_init_35 : decode cX0_init 35 = .ok (.newarray .int, 2) := by decide +kernel
theorem dX0_init_37 : decode cX0_init 37 = .ok (.putfield 24, 3) := by decide +kernel
theorem dX0_init_40 : decode cX0_init 40 = .ok (.aload_n 0, 1) := by decide +kernel
theorem dX0_init_41 : decode cX0_init 41 = .ok (.bipush 8, 2) := by decide +kernel
theorem dX0_init_43 : decode cX0_init 43 = .ok (.newarray .int, 2) := by decide +kernel
theorem dX0_init_45 : decode cX0_init 45 = .ok (.putfield 27, 3) := by decide +kernel
theorem dX0_init_48 : decode cX0_init 48 = .ok (.aload_n 0, 1) := by decide +kernel
theorem dX0_init_49 : decode cX0_init 49 = .ok (.bipush 8, 2) := by decide +kernel
theorem dX0_init_51 : decode cX0_init 51 = .ok (.newarray .boolean, 2) := by decide +kernel
theorem dX0_init_53 : decode cX0_init 53 = .ok (.putfield 30, 3) := by decide +kernel
theorem dX0_init_56 : decode cX0_init 56 = .ok (.aload_n 0, 1) := by decide +kernel
theorem dX0_init_57 : decode cX0_init 57 = .ok (.getfield 9, 3) := by decide +kernel
theorem dX0_init_60 : decode cX0_init 60 = .ok (.iconst (-1), 1) := by decide +kernel
theorem dX0_init_61 : decode cX0_init 61 = .ok (.invokestatic 34, 3) := by decide +kernel
theorem dX0_init_64 : decode cX0_init 64 = .ok (.return_, 1) := by decide +kernel
set_option maxRecDepth 20000 in
theorem ggX0_clear_X0_empty : GoodIn wsX0_clear wsX0_empty := goodIn_r _ [8, 9, 10, 11, 16, 17, 18, 19, 20, 21, 22, 23, 24] (by decide +kernel) (by decide +kernel)
set_option maxRecDepth 20000 in
theorem gX0_clear_X0_empty : GoodIn wsX0_clear (wsV RX0 40 RX0 yX0_empty wsX0_empty) := goodIn_app (goodIn_of _ (by decide +kernel)) ggX0_clear_X0_empty
set_option maxRecDepth 20000 in
theorem ggX0_clear_J7_fill_53178 : GoodIn wsX0_clear wsJ7_fill_53178 := goodIn_r _ [15] (by decide +kernel) (by decide +kernel)
set_option maxRecDepth 20000 in
theorem gX0_clear_J7_fill_53178 : GoodIn wsX0_clear (va_wsS RX0 34 yJ7_fill_53178 wsJ7_fill_53178) := goodIn_app (goodIn_of _ (by decide +kernel)) ggX0_clear_J7_fill_53178
theorem dX0_clear_0 : decode cX0_clear 0 = .ok (.iconst 0, 1) := by decide +kernel
theorem dX0_clear_1 : decode cX0_clear 1 = .ok (.istore_n 1, 1) := by decide +kernel
theorem dX0_clear_2 : decode cX0_clear 2 = .ok (.iload_n 1, 1) := by decide +kernel
theorem dX0_clear_3 : decode cX0_clear 3 = .ok (.iconst 5, 1) := by decide +kernel
theorem dX0_clear_4 : decode cX0_clear 4 = .ok (.if_icmp .ge 15, 3) := by decide +kernel
theorem dX0_clear_7 : decode cX0_clear 7 = .ok (.aload_n 0, 1) := by decide +kernel
theorem dX0_clear_8 : decode cX0_clear 8 = .ok (.iload_n 1, 1) := by decide +kernel
theorem dX0_clear_9 : decode cX0_clear 9 = .ok (.iconst 0, 1) := by decide +kernel
theorem dX0_clear_10 : decode cX0_clear 10 = .ok (.invokevirtual 40, 3) := by decide +kernel
theorem dX0_clear_13 : decode cX0_clear 13 = .ok (.iinc 1 1, 3) := by decide +kernel
theorem dX0_clear_16 : decode cX0_clear 16 = .ok (.goto (-14), 3) := by decide +kernel
theorem dX0_clear_19 : decode cX0_clear 19 = .ok (.aload_n 0, 1) := by decide +kernel
theorem dX0_clear_20 : decode cX0_clear 20 = .ok (.getfield 21, 3) := by decide +kernel
theorem dX0_clear_23 : decode cX0_clear 23 = .ok (.iconst 0, 1) := by decide +kernel
theorem dX0_clear_24 : decode cX0_clear 24 = .ok (.invokestatic 34, 3) := by decide +kernel
theorem dX0_clear_27 : decode cX0_clear 27 = .ok (.aload_n 0, 1) := by decide +kernel
theorem dX0_clear_28 : decode cX0_clear 28 = .ok (.iconst 0, 1) := by decide +kernel
theorem dX0_clear_29 : decode cX0_clear 29 = .ok (.putfield 44, 3) := by decide +kernel
theorem dX0_clear_32 : decode cX0_clear 32 = .ok (.aload_n 0, 1) := by decide +kernel
theorem dX0_clear_33 : decode cX0_clear 33 = .ok (.iconst 0, 1) := by decide +kernel
theorem dX0_clear_34 : decode cX0_clear 34 = .ok (.putfield 48, 3) := by decide +kernel
theorem dX0_clear_37 : decode cX0_clear 37 = .ok (.return_, 1) := by decide +kernel
theorem dX0_copyFrom_0 : decode cX0_copyFrom 0 = .ok (.aload_n 1, 1) := by decide +kernel
theorem dX0_copyFrom_1 : decode cX0_copyFrom 1 = .ok (.getfield 9, 3) := by decide +kernel
theorem dX0_copyFrom_4 : decode cX0_copyFrom 4 = .ok (.iconst 0, 1) := by decide +kernel
theorem dX0_copyFrom_5 : decode cX0_copyFrom 5 = .ok (.aload_n 0, 1) := by decide +kernel
theorem dX0_copyFrom_6 : decode cX0_copyFrom 6 = .ok (.getfield 9, 3) := by decide +kernel
theorem dX0_copyFrom_9 : decode cX0_copyFrom 9 = .ok (.iconst 0, 1) := by decide +kernel
theorem dX0_copyFrom_10 : decode cX0_copyFrom 10 = .ok (.iconst 5, 1) := by decide +kernel
theorem dX0_copyFrom_11 : decode cX0_copyFrom 11 = .ok (.invokestatic 51, 3) := by decide +kernel
theorem dX0_copyFrom_14 : decode cX0_copyFrom 14 = .ok (.aload_n 1, 1) := by decide +kernel
theorem dX0_copyFrom_15 : decode cX0_copyFrom 15 = .ok (.getfield 15, 3) := by decide +kernel
theorem dX0_copyFrom_18 : decode cX0_copyFrom 18 = .ok (.iconst 0, 1) := by decide +kernel
theorem dX0_copyFrom_19 : decode cX0_copyFrom 19 = .ok (.aload_n 0, 1) := by decide +kernel
theorem dX0_copyFrom_20 : decode cX0_copyFrom 20 = .ok (.getfield 15, 3) := by decide +kernel
theorem dX0_copyFrom_23 : decode cX0_copyFrom 23 = .ok (.iconst 0, 1) := by decide +kernel
theorem dX0_copyFrom_24 : decode cX0_copyFrom 24 = .ok (.iconst 5, 1) := by decide +kernel
theorem dX0_copyFrom_25 : decode cX0_copyFrom 25 = .ok (.invokestatic 51, 3) := by decide +kernel
theorem dX0_copyFrom_28 : decode cX0_copyFrom 28 = .ok (.aload_n 1, 1) := by decide +kernel
theorem dX0_copyFrom_29 : decode cX0_copyFrom 29 = .ok (.getfield 18, 3) := by decide +kernel
theorem dX0_copyFrom_32 : decode cX0_copyFrom 32 = .ok (.iconst 0, 1) := by decide +kernel
theorem dX0_copyFrom_33 : decode cX0_copyFrom 33 = .ok (.aload_n 0, 1) := by decide +kernel
theorem dX0_copyFrom_34 : decode cX0_copyFrom 34 = .ok (.getfield 18, 3) := by decide +kernel
theorem dX0_copyFrom_37 : decode cX0_copyFrom 37 = .ok (.iconst 0, 1) := by decide +kernel
theorem dX0_copyFrom_38 : decode cX0_copyFrom 38 = .ok (.iconst 5, 1) := by decide +kernel
theorem dX0_copyFrom_39 : decode cX0_copyFrom 39 = .ok (.invokestatic 51, 3) := by decide +kernel
theorem dX0_copyFrom_42 : decode cX0_copyFrom 42 = .ok (.aload_n 1, 1) := by decide +kernel
theorem dX0_copyFrom_43 : decode cX0_copyFrom 43 = .ok (.getfield 21, 3) := by decide +kernel
theorem dX0_copyFrom_46 : decode cX0_copyFrom 46 = .ok (.iconst 0, 1) := by decide +kernel
theorem dX0_copyFrom_47 : decode cX0_copyFrom 47 = .ok (.aload_n 0, 1) := by decide +kernel
theorem dX0_copyFrom_48 : decode cX0_copyFrom 48 = .ok (.getfield 21, 3) := by decide +kernel
theorem dX0_copyFrom_51 : decode cX0_copyFrom 51 = .ok (.iconst 0, 1) := by decide +kernel
theorem dX0_copyFrom_52 : decode cX0_copyFrom 52 = .ok (.iconst 5, 1) := by decide +kernel
theorem dX0_copyFrom_53 : decode cX0_copyFrom 53 = .ok (.invokestatic 51, 3) := by decide +kernel
theorem dX0_copyFrom_56 : decode cX0_copyFrom 56 = .ok (.aload_n 1, 1) := by decide +kernel
theorem dX0_copyFrom_57 : decode cX0_copyFrom 57 = .ok (.getfield 24, 3) := by decide +kernel
theorem dX0_copyFrom_60 : decode cX0_copyFrom 60 = .ok (.iconst 0, 1) := by decide +kernel
theorem dX0_copyFrom_61 : decode cX0_copyFrom 61 = .ok (.aload_n 0, 1) := by decide +kernel
theorem dX0_copyFrom_62 : decode cX0_copyFrom 62 = .ok (.getfield 24, 3) := by decide +kernel
theorem dX0_copyFrom_65 : decode cX0_copyFrom 65 = .ok (.iconst 0, 1) := by decide +kernel
theorem dX0_copyFrom_66 : decode cX0_copyFrom 66 = .ok (.bipush 8, 2) := by decide +kernel
theorem dX0_copyFrom_68 : decode cX0_copyFrom 68 = .ok (.invokestatic 51, 3) := by decide +kernel
theorem dX0_copyFrom_71 : decode cX0_copyFrom 71 = .ok (.aload_n 1, 1) := by decide +kernel
theorem dX0_copyFrom_72 : decode cX0_copyFrom 72 = .ok (.getfield 27, 3) := by decide +kernel
theorem dX0_copyFrom_75 : decode cX0_copyFrom 75 = .ok (.iconst 0, 1) := by decide +kernel
theorem dX0_copyFrom_76 : decode cX0_copyFrom 76 = .ok (.aload_n 0, 1) := by decide +kernel
theorem dX0_copyFrom_77 : decode cX0_copyFrom 77 = .ok (.getfield 27, 3) := by decide +kernel
theorem dX0_copyFrom_80 : decode cX0_copyFrom 80 = .ok (.iconst 0, 1) := by decide +kernel
theorem dX0_copyFrom_81 : decode cX0_copyFrom 81 = .ok (.bipush 8, 2) := by decide +kernel
theorem dX0_copyFrom_83 : decode cX0_copyFrom 83 = .ok (.invokestatic 51, 3) := by decide +kernel
theorem dX0_copyFrom_86 : decode cX0_copyFrom 86 = .ok (.aload_n 1, 1) := by decide +kernel
theorem dX0_copyFrom_87 : decode cX0_copyFrom 87 = .ok (.getfield 30, 3) := by decide +kernel
theorem dX0_copyFrom_90 : decode cX0_copyFrom 90 = .ok (.iconst 0, 1) := by decide +kernel
theorem dX0_copyFrom_91 : decode cX0_copyFrom 91 = .ok (.aload_n 0, 1) := by decide +kernel
theorem dX0_copyFrom_92 : decode cX0_copyFrom 92 = .ok (.getfield 30, 3) := by decide +kernel
theorem dX0_copyFrom_95 : decode cX0_copyFrom 95 = .ok (.iconst 0, 1) := by decide +kernel
theorem dX0_copyFrom_96 : decode cX0_copyFrom 96 = .ok (.bipush 8, 2) := by decide +kernel
theorem dX0_copyFrom_98 : decode cX0_copyFrom 98 = .ok (.invokestatic 51, 3) := by decide +kernel
theorem dX0_copyFrom_101 : decode cX0_copyFrom 101 = .ok (.aload_n 0, 1) := by decide +kernel
theorem dX0_copyFrom_102 : decode cX0_copyFrom 102 = .ok (.aload_n 1, 1) := by decide +kernel
theorem dX0_copyFrom_103 : decode cX0_copyFrom 103 = .ok (.getfield 44, 3) := by decide +kernel
theorem dX0_copyFrom_106 : decode cX0_copyFrom 106 = .ok (.putfield 44, 3) := by decide +kernel
theorem dX0_copyFrom_109 : decode cX0_copyFrom 109 = .ok (.aload_n 0, 1) := by decide +kernel
theorem dX0_copyFrom_110 : decode cX0_copyFrom 110 = .ok (.aload_n 1, 1) := by decide +kernel
theorem dX0_copyFrom_111 : decode cX0_copyFrom 111 = .ok (.getfield 48, 3) := by decide +kernel
theorem dX0_copyFrom_114 : decode cX0_copyFrom 114 = .ok (.putfield 48, 3) := by decide +kernel
theorem dX0_copyFrom_117 : decode cX0_copyFrom 117 = .ok (.return_, 1) := by decide +kernel
theorem dX0_empty_0 : decode cX0_empty 0 = .ok (.aload_n 0, 1) := by decide +kernel
theorem dX0_empty_1 : decode cX0_empty 1 = .ok (.getfield 9, 3) := by decide +kernel
theorem dX0_empty_4 : decode cX0_empty 4 = .ok (.iload_n 1, 1) := by decide +kernel
theorem dX0_empty_5 : decode cX0_empty 5 = .ok (.iconst (-1), 1) := by decide +kernel
theorem dX0_empty_6 : decode cX0_empty 6 = .ok (.iastore, 1) := by decide +kernel
theorem dX0_empty_7 : decode cX0_empty 7 = .ok (.aload_n 0, 1) := by decide +kernel
theorem dX0_empty_8 : decode cX0_empty 8 = .ok (.getfield 15, 3) := by decide +kernel
theorem dX0_empty_11 : decode cX0_empty 11 = .ok (.iload_n 1, 1) := by decide +kernel
theorem dX0_empty_12 : decode cX0_empty 12 = .ok (.iload_n 2, 1) := by decide +kernel
theorem dX0_empty_13 : decode cX0_empty 13 = .ok (.iastore, 1) := by decide +kernel
theorem dX0_empty_14 : decode cX0_empty 14 = .ok (.aload_n 0, 1) := by decide +kernel
theorem dX0_empty_15 : decode cX0_empty 15 = .ok (.getfield 18, 3) := by decide +kernel
theorem dX0_empty_18 : decode cX0_empty 18 = .ok (.iload_n 1, 1) := by decide +kernel
theorem dX0_empty_19 : decode cX0_empty 19 = .ok (.iconst 0, 1) := by decide +kernel
theorem dX0_empty_20 : decode cX0_empty 20 = .ok (.iastore, 1) := by decide +kernel
theorem dX0_empty_21 : decode cX0_empty 21 = .ok (.return_, 1) := by decide +kernel
theorem dX0_holesOf_0 : decode cX0_holesOf 0 = .ok (.iconst 0, 1) := by decide +kernel
theorem dX0_holesOf_1 : decode cX0_holesOf 1 = .ok (.istore_n 2, 1) := by decide +kernel
theorem dX0_holesOf_2 : decode cX0_holesOf 2 = .ok (.iconst 0, 1) := by decide +kernel
theorem dX0_holesOf_3 : decode cX0_holesOf 3 = .ok (.istore_n 3, 1) := by decide +kernel
theorem dX0_holesOf_4 : decode cX0_holesOf 4 = .ok (.iload_n 3, 1) := by decide +kernel
theorem dX0_holesOf_5 : decode cX0_holesOf 5 = .ok (.iconst 5, 1) := by decide +kernel
theorem dX0_holesOf_6 : decode cX0_holesOf 6 = .ok (.if_icmp .ge 25, 3) := by decide +kernel
theorem dX0_holesOf_9 : decode cX0_holesOf 9 = .ok (.aload_n 0, 1) := by decide +kernel
theorem dX0_holesOf_10 : decode cX0_holesOf 10 = .ok (.getfield 9, 3) := by decide +kernel
theorem dX0_holesOf_13 : decode cX0_holesOf 13 = .ok (.iload_n 3, 1) := by decide +kernel
theorem dX0_holesOf_14 : decode cX0_holesOf 14 = .ok (.iaload, 1) := by decide +kernel
theorem dX0_holesOf_15 : decode cX0_holesOf 15 = .ok (.iload_n 1, 1) := by decide +kernel
theorem dX0_holesOf_16 : decode cX0_holesOf 16 = .ok (.if_icmp .ne 9, 3) := by decide +kernel
theorem dX0_holesOf_19 : decode cX0_holesOf 19 = .ok (.iload_n 2, 1) := by decide +kernel
theorem dX0_holesOf_20 : decode cX0_holesOf 20 = .ok (.iconst 1, 1) := by decide +kernel
theorem dX0_holesOf_21 : decode cX0_holesOf 21 = .ok (.iload_n 3, 1) := by decide +kernel
theorem dX0_holesOf_22 : decode cX0_holesOf 22 = .ok (.ishl, 1) := by decide +kernel
theorem dX0_holesOf_23 : decode cX0_holesOf 23 = .ok (.ior, 1) := by decide +kernel
theorem dX0_holesOf_24 : decode cX0_holesOf 24 = .ok (.istore_n 2, 1) := by decide +kernel
theorem dX0_holesOf_25 : decode cX0_holesOf 25 = .ok (.iinc 3 1, 3) := by decide +kernel
theorem dX0_holesOf_28 : decode cX0_holesOf 28 = .ok (.goto (-24), 3) := by decide +kernel
theorem dX0_holesOf_31 : decode cX0_holesOf 31 = .ok (.iload_n 2, 1) := by decide +kernel
theorem dX0_holesOf_32 : decode cX0_holesOf 32 = .ok (.ireturn, 1) := by decide +kernel
theorem dX0_eggsOf_0 : decode cX0_eggsOf 0 = .ok (.iconst 0, 1) := by decide +kernel
theorem dX0_eggsOf_1 : decode cX0_eggsOf 1 = .ok (.istore_n 2, 1) := by decide +kernel
theorem dX0_eggsOf_2 : decode cX0_eggsOf 2 = .ok (.iconst 0, 1) := by decide +kernel
theorem dX0_eggsOf_3 : decode cX0_eggsOf 3 = .ok (.istore_n 3, 1) := by decide +kernel
theorem dX0_eggsOf_4 : decode cX0_eggsOf 4 = .ok (.iload_n 3, 1) := by decide +kernel
theorem dX0_eggsOf_5 : decode cX0_eggsOf 5 = .ok (.iconst 5, 1) := by decide +kernel
theorem dX0_eggsOf_6 : decode cX0_eggsOf 6 = .ok (.if_icmp .ge 28, 3) := by decide +kernel
theorem dX0_eggsOf_9 : decode cX0_eggsOf 9 = .ok (.aload_n 0, 1) := by decide +kernel
theorem dX0_eggsOf_10 : decode cX0_eggsOf 10 = .ok (.getfield 9, 3) := by decide +kernel
theorem dX0_eggsOf_13 : decode cX0_eggsOf 13 = .ok (.iload_n 3, 1) := by decide +kernel
theorem dX0_eggsOf_14 : decode cX0_eggsOf 14 = .ok (.iaload, 1) := by decide +kernel
theorem dX0_eggsOf_15 : decode cX0_eggsOf 15 = .ok (.iload_n 1, 1) := by decide +kernel
theorem dX0_eggsOf_16 : decode cX0_eggsOf 16 = .ok (.if_icmp .ne 12, 3) := by decide +kernel
theorem dX0_eggsOf_19 : decode cX0_eggsOf 19 = .ok (.iload_n 2, 1) := by decide +kernel
theorem dX0_eggsOf_20 : decode cX0_eggsOf 20 = .ok (.aload_n 0, 1) := by decide +kernel
theorem dX0_eggsOf_21 : decode cX0_eggsOf 21 = .ok (.getfield 18, 3) := by decide +kernel
theorem dX0_eggsOf_24 : decode cX0_eggsOf 24 = .ok (.iload_n 3, 1) := by decide +kernel
theorem dX0_eggsOf_25 : decode cX0_eggsOf 25 = .ok (.iaload, 1) := by decide +kernel
theorem dX0_eggsOf_26 : decode cX0_eggsOf 26 = .ok (.iadd, 1) := by decide +kernel
theorem dX0_eggsOf_27 : decode cX0_eggsOf 27 = .ok (.istore_n 2, 1) := by decide +kernel
theorem dX0_eggsOf_28 : decode cX0_eggsOf 28 = .ok (.iinc 3 1, 3) := by decide +kernel
theorem dX0_eggsOf_31 : decode cX0_eggsOf 31 = .ok (.goto (-27), 3) := by decide +kernel
theorem dX0_eggsOf_34 : decode cX0_eggsOf 34 = .ok (.iload_n 2, 1) := by decide +kernel
theorem dX0_eggsOf_35 : decode cX0_eggsOf 35 = .ok (.ireturn, 1) := by decide +kernel
set_option maxRecDepth 20000 in
theorem ggX0_roomOf_X0_holesOf : GoodIn wsX0_roomOf wsX0_holesOf := goodIn_r _ [5, 6, 14, 15, 16, 17, 18, 19, 20, 21, 22] (by decide +kernel) (by decide +kernel)
set_option maxRecDepth 20000 in
theorem gX0_roomOf_X0_holesOf : GoodIn wsX0_roomOf (wsV RX0 57 RX0 yX0_holesOf wsX0_holesOf) := goodIn_app (goodIn_of _ (by decide +kernel)) ggX0_roomOf_X0_holesOf
set_option maxRecDepth 20000 in
theorem ggX0_roomOf_J6_bitCount_0f7a4 : GoodIn wsX0_roomOf wsJ6_bitCount_0f7a4 := goodIn_r _ [10, 11, 12, 13] (by decide +kernel) (by decide +kernel)
set_option maxRecDepth 20000 in
theorem gX0_roomOf_J6_bitCount_0f7a4 : GoodIn wsX0_roomOf (va_wsS RX0 61 yJ6_bitCount_0f7a4 wsJ6_bitCount_0f7a4) := goodIn_app (goodIn_of _ (by decide +kernel)) ggX0_roomOf_J6_bitCount_0f7a4
theorem dX0_roomOf_0 : decode cX0_roomOf 0 = .ok (.iconst 2, 1) := by decide +kernel
theorem dX0_roomOf_1 : decode cX0_roomOf 1 = .ok (.aload_n 0, 1) := by decide +kernel
theorem dX0_roomOf_2 : decode cX0_roomOf 2 = .ok (.iload_n 1, 1) := by decide +kernel
theorem dX0_roomOf_3 : decode cX0_roomOf 3 = .ok (.invokevirtual 57, 3) := by decide +kernel
theorem dX0_roomOf_6 : decode cX0_roomOf 6 = .ok (.invokestatic 61, 3) := by decide +kernel
theorem dX0_roomOf_9 : decode cX0_roomOf 9 = .ok (.isub, 1) := by decide +kernel
theorem dX0_roomOf_10 : decode cX0_roomOf 10 = .ok (.ireturn, 1) := by decide +kernel
theorem dX0_holesWith_0 : decode cX0_holesWith 0 = .ok (.iconst 0, 1) := by decide +kernel
theorem dX0_holesWith_1 : decode cX0_holesWith 1 = .ok (.istore_n 2, 1) := by decide +kernel
theorem dX0_holesWith_2 : decode cX0_holesWith 2 = .ok (.aload_n 0, 1) := by decide +kernel
theorem dX0_holesWith_3 : decode cX0_holesWith 3 = .ok (.getfield 15, 3) := by decide +kernel
theorem dX0_holesWith_6 : decode cX0_holesWith 6 = .ok (.astore_n 3, 1) := by decide +kernel
theorem dX0_holesWith_7 : decode cX0_holesWith 7 = .ok (.aload_n 3, 1) := by decide +kernel
theorem dX0_holesWith_8 : decode cX0_holesWith 8 = .ok (.arraylength, 1) := by decide +kernel
theorem dX0_holesWith_9 : decode cX0_holesWith 9 = .ok (.istore 4, 2) := by decide +kernel
theorem dX0_holesWith_11 : decode cX0_holesWith 11 = .ok (.iconst 0, 1) := by decide +kernel
theorem dX0_holesWith_12 : decode cX0_holesWith 12 = .ok (.istore 5, 2) := by decide +kernel
theorem dX0_holesWith_14 : decode cX0_holesWith 14 = .ok (.iload 5, 2) := by decide +kernel
theorem dX0_holesWith_16 : decode cX0_holesWith 16 = .ok (.iload 4, 2) := by decide +kernel
theorem dX0_holesWith_18 : decode cX0_holesWith 18 = .ok (.if_icmp .ge 24, 3) := by decide +kernel
theorem dX0_holesWith_21 : decode cX0_holesWith 21 = .ok (.aload_n 3, 1) := by decide +kernel
theorem dX0_holesWith_22 : decode cX0_holesWith 22 = .ok (.iload 5, 2) := by decide +kernel
theorem dX0_holesWith_24 : decode cX0_holesWith 24 = .ok (.iaload, 1) := by decide +kernel
theorem dX0_holesWith_25 : decode cX0_holesWith 25 = .ok (.istore 6, 2) := by decide +kernel
theorem dX0_holesWith_27 : decode cX0_holesWith 27 = .ok (.iload 6, 2) := by decide +kernel
theorem dX0_holesWith_29 : decode cX0_holesWith 29 = .ok (.iload_n 1, 1) := by decide +kernel
theorem dX0_holesWith_30 : decode cX0_holesWith 30 = .ok (.if_icmp .ne 6, 3) := by decide +kernel
theorem dX0_holesWith_33 : decode cX0_holesWith 33 = .ok (.iinc 2 1, 3) := by decide +kernel
theorem dX0_holesWith_36 : decode cX0_holesWith 36 = .ok (.iinc 5 1, 3) := by decide +kernel
theorem dX0_holesWith_39 : decode cX0_holesWith 39 = .ok (.goto (-25), 3) := by decide +kernel
theorem dX0_holesWith_42 : decode cX0_holesWith 42 = .ok (.iload_n 2, 1) := by decide +kernel
theorem dX0_holesWith_43 : decode cX0_holesWith 43 = .ok (.ireturn, 1) := by decide +kernel
theorem dX1_init_0 : decode cX1_init 0 = .ok (.aload_n 0, 1) := by decide +kernel
theorem dX1_init_1 : decode cX1_init 1 = .ok (.invokespecial 3, 3) := by decide +kernel
theorem dX1_init_4 : decode cX1_init 4 = .ok (.aload_n 0, 1) := by decide +kernel
theorem dX1_init_5 : decode cX1_init 5 = .ok (.iconst 5, 1) := by decide +kernel
theorem dX1_init_6 : decode cX1_init 6 = .ok (.newarray .int, 2) := by decide +kernel
theorem dX1_init_8 : decode cX1_init 8 = .ok (.putfield 9, 3) := by decide +kernel
theorem dX1_init_11 : decode cX1_init 11 = .ok (.return_, 1) := by decide +kernel
set_option maxRecDepth 20000 in
theorem ggX1_pass_X1_passYear : GoodIn wsX1_pass wsX1_passYear := goodIn_r _ [16, 17, 2, 7, 18, 19, 20, 15, 21, 22, 8, 23, 24, 25, 26, 27, 28, 29, 30, 31, 32, 33, 34, 35, 36, 37, 38, 39, 40, 41, 42, 43, 44, 45, 46, 47, 48, 49, 50, 51, 52, 53, 54, 55, 68, 69, 70, 71, 72, 65, 66, 67] (by decide +kernel) (by decide +kernel)
set_option maxRecDepth 20000 in
theorem gX1_pass_X1_passYear : GoodIn wsX1_pass (wsV RX1 43 RX1 yX1_passYear wsX1_passYear) := goodIn_app (goodIn_of _ (by decide +kernel)) ggX1_pass_X1_passYear
theorem dX1_pass_0 : decode cX1_pass 0 = .ok (.aload_n 2, 1) := by decide +kernel
theorem dX1_pass_1 : decode cX1_pass 1 = .ok (.getfield 15, 3) := by decide +kernel
theorem dX1_pass_4 : decode cX1_pass 4 = .ok (.iconst 0, 1) := by decide +kernel
theorem dX1_pass_5 : decode cX1_pass 5 = .ok (.aload_n 0, 1) := by decide +kernel
theorem dX1_pass_6 : decode cX1_pass 6 = .ok (.getfield 9, 3) := by decide +kernel
theorem dX1_pass_9 : decode cX1_pass 9 = .ok (.iconst 0, 1) := by decide +kernel
theorem dX1_pass_10 : decode cX1_pass 10 = .ok (.iconst 5, 1) := by decide +kernel
theorem dX1_pass_11 : decode cX1_pass 11 = .ok (.invokestatic 18, 3) := by decide +kernel
theorem dX1_pass_14 : decode cX1_pass 14 = .ok (.aload_n 0, 1) := by decide +kernel
theorem dX1_pass_15 : decode cX1_pass 15 = .ok (.iconst 0, 1) := by decide +kernel
theorem dX1_pass_16 : decode cX1_pass 16 = .ok (.putfield 24, 3) := by decide +kernel
theorem dX1_pass_19 : decode cX1_pass 19 = .ok (.aload_n 0, 1) := by decide +kernel
theorem dX1_pass_20 : decode cX1_pass 20 = .ok (.iload 4, 2) := by decide +kernel
theorem dX1_pass_22 : decode cX1_pass 22 = .ok (.i2l, 1) := by decide +kernel
theorem dX1_pass_23 : decode cX1_pass 23 = .ok (.putfield 28, 3) := by decide +kernel
theorem dX1_pass_26 : decode cX1_pass 26 = .ok (.iconst 0, 1) := by decide +kernel
theorem dX1_pass_27 : decode cX1_pass 27 = .ok (.istore 5, 2) := by decide +kernel
theorem dX1_pass_29 : decode cX1_pass 29 = .ok (.iload 5, 2) := by decide +kernel
theorem dX1_pass_31 : decode cX1_pass 31 = .ok (.iload_n 3, 1) := by decide +kernel
theorem dX1_pass_32 : decode cX1_pass 32 = .ok (.if_icmp .ge 52, 3) := by decide +kernel
theorem dX1_pass_35 : decode cX1_pass 35 = .ok (.iconst 0, 1) := by decide +kernel
theorem dX1_pass_36 : decode cX1_pass 36 = .ok (.istore 6, 2) := by decide +kernel
theorem dX1_pass_38 : decode cX1_pass 38 = .ok (.iload 6, 2) := by decide +kernel
theorem dX1_pass_40 : decode cX1_pass 40 = .ok (.aload_n 1, 1) := by decide +kernel
theorem dX1_pass_41 : decode cX1_pass 41 = .ok (.getfield 32, 3) := by decide +kernel
theorem dX1_pass_44 : decode cX1_pass 44 = .ok (.if_icmp .ge 34, 3) := by decide +kernel
theorem dX1_pass_47 : decode cX1_pass 47 = .ok (.aload_n 2, 1) := by decide +kernel
theorem dX1_pass_48 : decode cX1_pass 48 = .ok (.getfield 37, 3) := by decide +kernel
theorem dX1_pass_51 : decode cX1_pass 51 = .ok (.iload 6, 2) := by decide +kernel
theorem dX1_pass_53 : decode cX1_pass 53 = .ok (.iaload, 1) := by decide +kernel
theorem dX1_pass_54 : decode cX1_pass 54 = .ok (.iconst 1, 1) := by decide +kernel
theorem dX1_pass_55 : decode cX1_pass 55 = .ok (.if_icmp .ne 17, 3) := by decide +kernel
theorem dX1_pass_58 : decode cX1_pass 58 = .ok (.aload_n 0, 1) := by decide +kernel
theorem dX1_pass_59 : decode cX1_pass 59 = .ok (.aload_n 1, 1) := by decide +kernel
theorem dX1_pass_60 : decode cX1_pass 60 = .ok (.iload 6, 2) := by decide +kernel
theorem dX1_pass_62 : decode cX1_pass 62 = .ok (.aload_n 2, 1) := by decide +kernel
theorem dX1_pass_63 : decode cX1_pass 63 = .ok (.getfield 40, 3) := by decide +kernel
theorem dX1_pass_66 : decode cX1_pass 66 = .ok (.iload 6, 2) := by decide +kernel
theorem dX1_pass_68 : decode cX1_pass 68 = .ok (.iaload, 1) := by decide +kernel
theorem dX1_pass_69 : decode cX1_pass 69 = .ok (.invokevirtual 43, 3) := by decide +kernel
theorem dX1_pass_72 : decode cX1_pass 72 = .ok (.iinc 6 1, 3) := by decide +kernel
theorem dX1_pass_75 : decode cX1_pass 75 = .ok (.goto (-37), 3) := by decide +kernel
theorem dX1_pass_78 : decode cX1_pass 78 = .ok (.iinc 5 1, 3) := by decide +kernel
theorem dX1_pass_81 : decode cX1_pass 81 = .ok (.goto (-52), 3) := by decide +kernel
theorem dX1_pass_84 : decode cX1_pass 84 = .ok (.return_, 1) := by decide +kernel
set_option maxRecDepth 20000 in
theorem ggX1_allEggs_X5_sum : GoodIn wsX1_allEggs wsX5_sum := goodIn_r _ [4] (by decide +kernel) (by decide +kernel)
set_option maxRecDepth 20000 in
theorem gX1_allEggs_X5_sum_n47 : GoodIn wsX1_allEggs (wsX5_sum) := ggX1_allEggs_X5_sum
theorem dX1_allEggs_0 : decode cX1_allEggs 0 = .ok (.aload_n 0, 1) := by decide +kernel
theorem dX1_allEggs_1 : decode cX1_allEggs 1 = .ok (.getfield 9, 3) := by decide +kernel
theorem dX1_allEggs_4 : decode cX1_allEggs 4 = .ok (.invokestatic 47, 3) := by decide +kernel
theorem dX1_allEggs_7 : decode cX1_allEggs 7 = .ok (.ireturn, 1) := by decide +kernel
set_option maxRecDepth 20000 in
theorem ggX1_passYear_X1_drawOfTen : GoodIn wsX1_passYear wsX1_drawOfTen := goodIn_r _ [8, 9, 10, 11, 12, 13, 14, 49, 50, 51] (by decide +kernel) (by decide +kernel)
set_option maxRecDepth 20000 in
theorem gX1_passYear_X1_drawOfTen : GoodIn wsX1_passYear (wsV RX1 51 RX1 yX1_drawOfTen wsX1_drawOfTen) := goodIn_app (goodIn_of _ (by decide +kernel)) ggX1_passYear_X1_drawOfTen
set_option maxRecDepth 20000 in
theorem ggX1_passYear_X2_yearsKept : GoodIn wsX1_passYear wsX2_yearsKept := goodIn_r _ [19, 20, 21, 22, 23, 24, 18, 25, 26, 27, 28, 29, 30, 31, 32, 33, 34, 35, 36, 37, 38, 39, 44, 45, 46, 47, 48] (by decide +kernel) (by decide +kernel)
set_option maxRecDepth 20000 in
theorem gX1_passYear_X2_yearsKept : GoodIn wsX1_passYear (wsV RX1 58 RX2 yX2_yearsKept wsX2_yearsKept) := goodIn_app (goodIn_of _ (by decide +kernel)) ggX1_passYear_X2_yearsKept
set_option maxRecDepth 20000 in
theorem ggX1_passYear_X2_eggsOfAYear : GoodIn wsX1_passYear wsX2_eggsOfAYear := goodIn_r _ [43, 20, 22, 23, 24, 18, 25, 26, 38, 28, 39, 44, 45, 46, 47, 48] (by decide +kernel) (by decide +kernel)
set_option maxRecDepth 20000 in
theorem gX1_passYear_X2_eggsOfAYear : GoodIn wsX1_passYear (wsV RX1 62 RX2 yX2_eggsOfAYear wsX2_eggsOfAYear) := goodIn_app (goodIn_of _ (by decide +kernel)) ggX1_passYear_X2_eggsOfAYear
theorem dX1_passYear_0 : decode cX1_passYear 0 = .ok (.aload_n 0, 1) := by decide +kernel
theorem dX1_passYear_1 : decode cX1_passYear 1 = .ok (.invokevirtual 51, 3) := by decide +kernel
theorem dX1_passYear_4 : decode cX1_passYear 4 = .ok (.aload_n 1, 1) := by decide +kernel
theorem dX1_passYear_5 : decode cX1_passYear 5 = .ok (.iload_n 3, 1) := by decide +kernel
theorem dX1_passYear_6 : decode cX1_passYear 6 = .ok (.aload_n 1, 1) := by decide +kernel
theorem dX1_passYear_7 : decode cX1_passYear 7 = .ok (.getfield 55, 3) := by decide +kernel
theorem dX1_passYear_10 : decode cX1_passYear 10 = .ok (.iload_n 2, 1) := by decide +kernel
theorem dX1_passYear_11 : decode cX1_passYear 11 = .ok (.iaload, 1) := by decide +kernel
theorem dX1_passYear_12 : decode cX1_passYear 12 = .ok (.invokevirtual 58, 3) := by decide +kernel
theorem dX1_passYear_15 : decode cX1_passYear 15 = .ok (.i2l, 1) := by decide +kernel
theorem dX1_passYear_16 : decode cX1_passYear 16 = .ok (.lcmp, 1) := by decide +kernel
theorem dX1_passYear_17 : decode cX1_passYear 17 = .ok (.ifCond .ge 20, 3) := by decide +kernel
theorem dX1_passYear_20 : decode cX1_passYear 20 = .ok (.aload_n 0, 1) := by decide +kernel
theorem dX1_passYear_21 : decode cX1_passYear 21 = .ok (.getfield 9, 3) := by decide +kernel
theorem dX1_passYear_24 : decode cX1_passYear 24 = .ok (.iload_n 2, 1) := by decide +kernel
theorem dX1_passYear_25 : decode cX1_passYear 25 = .ok (.dup2, 1) := by decide +kernel
theorem dX1_passYear_26 : decode cX1_passYear 26 = .ok (.iaload, 1) := by decide +kernel
theorem dX1_passYear_27 : decode cX1_passYear 27 = .ok (.aload_n 1, 1) := by decide +kernel
theorem dX1_passYear_28 : decode cX1_passYear 28 = .ok (.iload_n 3, 1) := by decide +kernel
theorem dX1_passYear_29 : decode cX1_passYear 29 = .ok (.invokevirtual 62, 3) := by decide +kernel
theorem dX1_passYear_32 : decode cX1_passYear 32 = .ok (.iadd, 1) := by decide +kernel
theorem dX1_passYear_33 : decode cX1_passYear 33 = .ok (.iastore, 1) := by decide +kernel
theorem dX1_passYear_34 : decode cX1_passYear 34 = .ok (.goto 20, 3) := by decide +kernel
theorem dX1_passYear_37 : decode cX1_passYear 37 = .ok (.aload_n 0, 1) := by decide +kernel
theorem dX1_passYear_38 : decode cX1_passYear 38 = .ok (.getfield 9, 3) := by decide +kernel
theorem dX1_passYear_41 : decode cX1_passYear 41 = .ok (.iload_n 2, 1) := by decide +kernel
theorem dX1_passYear_42 : decode cX1_passYear 42 = .ok (.iconst 0, 1) := by decide +kernel
theorem dX1_passYear_43 : decode cX1_passYear 43 = .ok (.iastore, 1) := by decide +kernel
theorem dX1_passYear_44 : decode cX1_passYear 44 = .ok (.aload_n 0, 1) := by decide +kernel
theorem dX1_passYear_45 : decode cX1_passYear 45 = .ok (.dup, 1) := by decide +kernel
theorem dX1_passYear_46 : decode cX1_passYear 46 = .ok (.getfield 24, 3) := by decide +kernel
theorem dX1_passYear_49 : decode cX1_passYear 49 = .ok (.iconst 1, 1) := by decide +kernel
theorem dX1_passYear_50 : decode cX1_passYear 50 = .ok (.iadd, 1) := by decide +kernel
theorem dX1_passYear_51 : decode cX1_passYear 51 = .ok (.putfield 24, 3) := by decide +kernel
theorem dX1_passYear_54 : decode cX1_passYear 54 = .ok (.return_, 1) := by decide +kernel
theorem dX1_drawOfTen_0 : decode cX1_drawOfTen 0 = .ok (.aload_n 0, 1) := by decide +kernel
theorem dX1_drawOfTen_1 : decode cX1_drawOfTen 1 = .ok (.ldc2_w 66, 3) := by decide +kernel
theorem dX1_drawOfTen_4 : decode cX1_drawOfTen 4 = .ok (.aload_n 0, 1) := by decide +kernel
theorem dX1_drawOfTen_5 : decode cX1_drawOfTen 5 = .ok (.getfield 28, 3) := by decide +kernel
theorem dX1_drawOfTen_8 : decode cX1_drawOfTen 8 = .ok (.lmul, 1) := by decide +kernel
theorem dX1_drawOfTen_9 : decode cX1_drawOfTen 9 = .ok (.ldc2_w 68, 3) := by decide +kernel
theorem dX1_drawOfTen_12 : decode cX1_drawOfTen 12 = .ok (.ladd, 1) := by decide +kernel
theorem dX1_drawOfTen_13 : decode cX1_drawOfTen 13 = .ok (.ldc2_w 70, 3) := by decide +kernel
theorem dX1_drawOfTen_16 : decode cX1_drawOfTen 16 = .ok (.land, 1) := by decide +kernel
theorem dX1_drawOfTen_17 : decode cX1_drawOfTen 17 = .ok (.putfield 28, 3) := by decide +kernel
theorem dX1_drawOfTen_20 : decode cX1_drawOfTen 20 = .ok (.aload_n 0, 1) := by decide +kernel
theorem dX1_drawOfTen_21 : decode cX1_drawOfTen 21 = .ok (.getfield 28, 3) := by decide +kernel
theorem dX1_drawOfTen_24 : decode cX1_drawOfTen 24 = .ok (.ldc2_w 72, 3) := by decide +kernel
theorem dX1_drawOfTen_27 : decode cX1_drawOfTen 27 = .ok (.ldiv, 1) := by decide +kernel
theorem dX1_drawOfTen_28 : decode cX1_drawOfTen 28 = .ok (.ldc2_w 74, 3) := by decide +kernel
theorem dX1_drawOfTen_31 : decode cX1_drawOfTen 31 = .ok (.lrem, 1) := by decide +kernel
theorem dX1_drawOfTen_32 : decode cX1_drawOfTen 32 = .ok (.lreturn, 1) := by decide +kernel
theorem dX2_init_0 : decode cX2_init 0 = .ok (.aload_n 0, 1) := by decide +kernel
theorem dX2_init_1 : decode cX2_init 1 = .ok (.invokespecial 3, 3) := by decide +kernel
theorem dX2_init_4 : decode cX2_init 4 = .ok (.aload_n 0, 1) := by decide +kernel
theorem dX2_init_5 : decode cX2_init 5 = .ok (.iconst 5, 1) := by decide +kernel
theorem dX2_init_6 : decode cX2_init 6 = .ok (.newarray .int, 2) := by decide +kernel
theorem dX2_init_8 : decode cX2_init 8 = .ok (.putfield 9, 3) := by decide +kernel
theorem dX2_init_11 : decode cX2_init 11 = .ok (.aload_n 0, 1) := by decide +kernel
theorem dX2_init_12 : decode cX2_init 12 = .ok (.iconst 5, 1) := by decide +kernel
theorem dX2_init_13 : decode cX2_init 13 = .ok (.newarray .int, 2) := by decide +kernel
theorem dX2_init_15 : decode cX2_init 15 = .ok (.putfield 15, 3) := by decide +kernel
theorem dX2_init_18 : decode cX2_init 18 = .ok (.aload_n 0, 1) := by decide +kernel
theorem dX2_init_19 : decode cX2_init 19 = .ok (.iconst 5, 1) := by decide +kernel
theorem dX2_init_20 : decode cX2_init 20 = .ok (.newarray .int, 2) := by decide +kernel
theorem dX2_init_22 : decode cX2_init 22 = .ok (.putfield 18, 3) := by decide +kernel
theorem dX2_init_25 : decode cX2_init 25 = .ok (.return_, 1) := by decide +kernel
set_option maxRecDepth 20000 in
theorem ggX2_readFrom_J0_indexOf_0f7a4 : GoodIn wsX2_readFrom wsJ0_indexOf_0f7a4 := goodIn_r _ [17, 18, 19, 20, 16, 21, 22, 23, 24, 25, 26, 27, 28, 29, 30, 31, 32, 33, 34, 35, 36, 37, 38, 39, 40, 41, 42, 4, 43, 44, 3, 5, 45, 46, 47, 48, 49, 50, 51, 52, 53, 54, 55, 56, 57, 58, 59, 60, 61, 62, 63, 64, 65, 66, 67, 68, 69, 70, 71, 72, 73, 74, 75, 76, 77, 78, 79, 80, 81, 82, 83, 84, 85, 86, 87, 88, 89, 90, 91, 92, 93, 94, 95, 96, 97, 98] (by decide +kernel) (by decide +kernel)
set_option maxRecDepth 20000 in
theorem gX2_readFrom_J0_indexOf_0f7a4 : GoodIn wsX2_readFrom (wsV RX2 47 RJ0 yJ0_indexOf_0f7a4 wsJ0_indexOf_0f7a4) := goodIn_app (goodIn_of _ (by decide +kernel)) ggX2_readFrom_J0_indexOf_0f7a4
theorem dX2_readFrom_0 : decode cX2_readFrom 0 = .ok (.aload_n 0, 1) := by decide +kernel
theorem dX2_readFrom_1 : decode cX2_readFrom 1 = .ok (.iconst 5, 1) := by decide +kernel
theorem dX2_readFrom_2 : decode cX2_readFrom 2 = .ok (.aload_n 1, 1) := by decide +kernel
theorem dX2_readFrom_3 : decode cX2_readFrom 3 = .ok (.getfield 21, 3) := by decide +kernel
theorem dX2_readFrom_6 : decode cX2_readFrom 6 = .ok (.iconst 3, 1) := by decide +kernel
theorem dX2_readFrom_7 : decode cX2_readFrom 7 = .ok (.idiv, 1) := by decide +kernel
theorem dX2_readFrom_8 : decode cX2_readFrom 8 = .ok (.invokestatic 27, 3) := by decide +kernel
theorem dX2_readFrom_11 : decode cX2_readFrom 11 = .ok (.putfield 33, 3) := by decide +kernel
theorem dX2_readFrom_14 : decode cX2_readFrom 14 = .ok (.aload_n 0, 1) := by decide +kernel
theorem dX2_readFrom_15 : decode cX2_readFrom 15 = .ok (.iconst 5, 1) := by decide +kernel
theorem dX2_readFrom_16 : decode cX2_readFrom 16 = .ok (.aload_n 1, 1) := by decide +kernel
theorem dX2_readFrom_17 : decode cX2_readFrom 17 = .ok (.getfield 36, 3) := by decide +kernel
theorem dX2_readFrom_20 : decode cX2_readFrom 20 = .ok (.aload_n 1, 1) := by decide +kernel
theorem dX2_readFrom_21 : decode cX2_readFrom 21 = .ok (.getfield 21, 3) := by decide +kernel
theorem dX2_readFrom_24 : decode cX2_readFrom 24 = .ok (.isub, 1) := by decide +kernel
theorem dX2_readFrom_25 : decode cX2_readFrom 25 = .ok (.invokestatic 27, 3) := by decide +kernel
theorem dX2_readFrom_28 : decode cX2_readFrom 28 = .ok (.putfield 39, 3) := by decide +kernel
theorem dX2_readFrom_31 : decode cX2_readFrom 31 = .ok (.iconst 0, 1) := by decide +kernel
theorem dX2_readFrom_32 : decode cX2_readFrom 32 = .ok (.istore_n 2, 1) := by decide +kernel
theorem dX2_readFrom_33 : decode cX2_readFrom 33 = .ok (.iload_n 2, 1) := by decide +kernel
theorem dX2_readFrom_34 : decode cX2_readFrom 34 = .ok (.aload_n 0, 1) := by decide +kernel
theorem dX2_readFrom_35 : decode cX2_readFrom 35 = .ok (.getfield 33, 3) := by decide +kernel
theorem dX2_readFrom_38 : decode cX2_readFrom 38 = .ok (.if_icmp .ge 48, 3) := by decide +kernel
theorem dX2_readFrom_41 : decode cX2_readFrom 41 = .ok (.aload_n 0, 1) := by decide +kernel
theorem dX2_readFrom_42 : decode cX2_readFrom 42 = .ok (.getfield 9, 3) := by decide +kernel
theorem dX2_readFrom_45 : decode cX2_readFrom 45 = .ok (.iload_n 2, 1) := by decide +kernel
theorem dX2_readFrom_46 : decode cX2_readFrom 46 = .ok (.ldc 42, 2) := by decide +kernel
theorem dX2_readFrom_48 : decode cX2_readFrom 48 = .ok (.aload_n 1, 1) := by decide +kernel
theorem dX2_readFrom_49 : decode cX2_readFrom 49 = .ok (.getfield 44, 3) := by decide +kernel
theorem dX2_readFrom_52 : decode cX2_readFrom 52 = .ok (.iconst 3, 1) := by decide +kernel
theorem dX2_readFrom_53 : decode cX2_readFrom 53 = .ok (.iload_n 2, 1) := by decide +kernel
theorem dX2_readFrom_54 : decode cX2_readFrom 54 = .ok (.imul, 1) := by decide +kernel
theorem dX2_readFrom_55 : decode cX2_readFrom 55 = .ok (.iaload, 1) := by decide +kernel
theorem dX2_readFrom_56 : decode cX2_readFrom 56 = .ok (.i2c, 1) := by decide +kernel
theorem dX2_readFrom_57 : decode cX2_readFrom 57 = .ok (.invokevirtual 47, 3) := by decide +kernel
theorem dX2_readFrom_60 : decode cX2_readFrom 60 = .ok (.iastore, 1) := by decide +kernel
theorem dX2_readFrom_61 : decode cX2_readFrom 61 = .ok (.aload_n 0, 1) := by decide +kernel
theorem dX2_readFrom_62 : decode cX2_readFrom 62 = .ok (.getfield 15, 3) := by decide +kernel
theorem dX2_readFrom_65 : decode cX2_readFrom 65 = .ok (.iload_n 2, 1) := by decide +kernel
theorem dX2_readFrom_66 : decode cX2_readFrom 66 = .ok (.aload_n 1, 1) := by decide +kernel
theorem dX2_readFrom_67 : decode cX2_readFrom 67 = .ok (.getfield 44, 3) := by decide +kernel
theorem dX2_readFrom_70 : decode cX2_readFrom 70 = .ok (.iconst 3, 1) := by decide +kernel
theorem dX2_readFrom_71 : decode cX2_readFrom 71 = .ok (.iload_n 2, 1) := by decide +kernel
theorem dX2_readFrom_72 : decode cX2_readFrom 72 = .ok (.imul, 1) := by decide +kernel
theorem dX2_readFrom_73 : decode cX2_readFrom 73 = .ok (.iconst 1, 1) := by decide +kernel
theorem dX2_readFrom_74 : decode cX2_readFrom 74 = .ok (.iadd, 1) := by decide +kernel
theorem dX2_readFrom_75 : decode cX2_readFrom 75 = .ok (.iaload, 1) := by decide +kernel
theorem dX2_readFrom_76 : decode cX2_readFrom 76 = .ok (.bipush 48, 2) := by decide +kernel
theorem dX2_readFrom_78 : decode cX2_readFrom 78 = .ok (.isub, 1) := by decide +kernel
theorem dX2_readFrom_79 : decode cX2_readFrom 79 = .ok (.iastore, 1) := by decide +kernel
theorem dX2_readFrom_80 : decode cX2_readFrom 80 = .ok (.iinc 2 1, 3) := by decide +kernel
theorem dX2_readFrom_83 : decode cX2_readFrom 83 = .ok (.goto (-50), 3) := by decide +kernel
theorem dX2_readFrom_86 : decode cX2_readFrom 86 = .ok (.iconst 0, 1) := by decide +kernel
theorem dX2_readFrom_87 : decode cX2_readFrom 87 = .ok (.istore_n 2, 1) := by decide +kernel
theorem dX2_readFrom_88 : decode cX2_readFrom 88 = .ok (.iload_n 2, 1) := by decide +kernel
theorem dX2_readFrom_89 : decode cX2_readFrom 89 = .ok (.aload_n 0, 1) := by decide +kernel
theorem dX2_readFrom_90 : decode cX2_readFrom 90 = .ok (.getfield 39, 3) := by decide +kernel
theorem dX2_readFrom_93 : decode cX2_readFrom 93 = .ok (.if_icmp .ge 29, 3) := by decide +kernel
theorem dX2_readFrom_96 : decode cX2_readFrom 96 = .ok (.aload_n 0, 1) := by decide +kernel
theorem dX2_readFrom_97 : decode cX2_readFrom 97 = .ok (.getfield 18, 3) := by decide +kernel
theorem dX2_readFrom_100 : decode cX2_readFrom 100 = .ok (.iload_n 2, 1) := by decide +kernel
theorem dX2_readFrom_101 : decode cX2_readFrom 101 = .ok (.aload_n 1, 1) := by decide +kernel
theorem dX2_readFrom_102 : decode cX2_readFrom 102 = .ok (.getfield 44, 3) := by decide +kernel
theorem dX2_readFrom_105 : decode cX2_readFrom 105 = .ok (.aload_n 1, 1) := by decide +kernel
theorem dX2_readFrom_106 : decode cX2_readFrom 106 = .ok (.getfield 21, 3) := by decide +kernel
theorem dX2_readFrom_109 : decode cX2_readFrom 109 = .ok (.iload_n 2, 1) := by decide +kernel
theorem dX2_readFrom_110 : decode cX2_readFrom 110 = .ok (.iadd, 1) := by decide +kernel
theorem dX2_readFrom_111 : decode cX2_readFrom 111 = .ok (.iaload, 1) := by decide +kernel
theorem dX2_readFrom_112 : decode cX2_readFrom 112 = .ok (.bipush 48, 2) := by decide +kernel
theorem dX2_readFrom_114 : decode cX2_readFrom 114 = .ok (.isub, 1) := by decide +kernel
theorem dX2_readFrom_115 : decode cX2_readFrom 115 = .ok (.iastore, 1) := by decide +kernel
theorem dX2_readFrom_116 : decode cX2_readFrom 116 = .ok (.iinc 2 1, 3) := by decide +kernel
theorem dX2_readFrom_119 : decode cX2_readFrom 119 = .ok (.goto (-31), 3) := by decide +kernel
theorem dX2_readFrom_122 : decode cX2_readFrom 122 = .ok (.return_, 1) := by decide +kernel
theorem dX2_stands_0 : decode cX2_stands 0 = .ok (.aload_n 0, 1) := by decide +kernel
theorem dX2_stands_1 : decode cX2_stands 1 = .ok (.getfield 33, 3) := by decide +kernel
theorem dX2_stands_4 : decode cX2_stands 4 = .ok (.ifCond .le 7, 3) := by decide +kernel
theorem dX2_stands_7 : decode cX2_stands 7 = .ok (.iconst 1, 1) := by decide +kernel
theorem dX2_stands_8 : decode cX2_stands 8 = .ok (.goto 4, 3) := by decide +kernel
theorem dX2_stands_11 : decode cX2_stands 11 = .ok (.iconst 0, 1) := by decide +kernel
theorem dX2_stands_12 : decode cX2_stands 12 = .ok (.ireturn, 1) := by decide +kernel
theorem dX2_hasKeeper_0 : decode cX2_hasKeeper 0 = .ok (.iload_n 1, 1) := by decide +kernel
theorem dX2_hasKeeper_1 : decode cX2_hasKeeper 1 = .ok (.ifCond .lt 15, 3) := by decide +kernel
theorem dX2_hasKeeper_4 : decode cX2_hasKeeper 4 = .ok (.iload_n 1, 1) := by decide +kernel
theorem dX2_hasKeeper_5 : decode cX2_hasKeeper 5 = .ok (.aload_n 0, 1) := by decide +kernel
theorem dX2_hasKeeper_6 : decode cX2_hasKeeper 6 = .ok (.getfield 33, 3) := by decide +kernel
theorem dX2_hasKeeper_9 : decode cX2_hasKeeper 9 = .ok (.if_icmp .ge 7, 3) := by decide +kernel
theorem dX2_hasKeeper_12 : decode cX2_hasKeeper 12 = .ok (.iconst 1, 1) := by decide +kernel
theorem dX2_hasKeeper_13 : decode cX2_hasKeeper 13 = .ok (.goto 4, 3) := by decide +kernel
theorem dX2_hasKeeper_16 : decode cX2_hasKeeper 16 = .ok (.iconst 0, 1) := by decide +kernel
theorem dX2_hasKeeper_17 : decode cX2_hasKeeper 17 = .ok (.ireturn, 1) := by decide +kernel
theorem dX2_hasHole_0 : decode cX2_hasHole 0 = .ok (.iload_n 1, 1) := by decide +kernel
theorem dX2_hasHole_1 : decode cX2_hasHole 1 = .ok (.ifCond .lt 15, 3) := by decide +kernel
theorem dX2_hasHole_4 : decode cX2_hasHole 4 = .ok (.iload_n 1, 1) := by decide +kernel
theorem dX2_hasHole_5 : decode cX2_hasHole 5 = .ok (.aload_n 0, 1) := by decide +kernel
theorem dX2_hasHole_6 : decode cX2_hasHole 6 = .ok (.getfield 39, 3) := by decide +kernel
theorem dX2_hasHole_9 : decode cX2_hasHole 9 = .ok (.if_icmp .ge 7, 3) := by decide +kernel
theorem dX2_hasHole_12 : decode cX2_hasHole 12 = .ok (.iconst 1, 1) := by decide +kernel
theorem dX2_hasHole_13 : decode cX2_hasHole 13 = .ok (.goto 4, 3) := by decide +kernel
theorem dX2_hasHole_16 : decode cX2_hasHole 16 = .ok (.iconst 0, 1) := by decide +kernel
theorem dX2_hasHole_17 : decode cX2_hasHole 17 = .ok (.ireturn, 1) := by decide +kernel
set_option maxRecDepth 20000 in
theorem ggX2_yearsKept_X2_hasKeeper : GoodIn wsX2_yearsKept wsX2_hasKeeper := goodIn_r _ [7, 8, 22, 23, 24, 25, 26] (by decide +kernel) (by decide +kernel)
set_option maxRecDepth 20000 in
theorem gX2_yearsKept_X2_hasKeeper : GoodIn wsX2_yearsKept (wsV RX2 53 RX2 yX2_hasKeeper wsX2_hasKeeper) := goodIn_app (goodIn_of _ (by decide +kernel)) ggX2_yearsKept_X2_hasKeeper
set_option maxRecDepth 20000 in
theorem ggX2_yearsKept_X5_yearsKeptBy : GoodIn wsX2_yearsKept wsX5_yearsKeptBy := goodIn_r _ [11, 12, 13, 14, 15, 16, 17, 18, 19, 20, 10, 21] (by decide +kernel) (by decide +kernel)
set_option maxRecDepth 20000 in
theorem gX2_yearsKept_X5_yearsKeptBy_n57 : GoodIn wsX2_yearsKept (wsX5_yearsKeptBy) := ggX2_yearsKept_X5_yearsKeptBy
theorem dX2_yearsKept_0 : decode cX2_yearsKept 0 = .ok (.aload_n 0, 1) := by decide +kernel
theorem dX2_yearsKept_1 : decode cX2_yearsKept 1 = .ok (.iload_n 1, 1) := by decide +kernel
theorem dX2_yearsKept_2 : decode cX2_yearsKept 2 = .ok (.invokevirtual 53, 3) := by decide +kernel
theorem dX2_yearsKept_5 : decode cX2_yearsKept 5 = .ok (.ifCond .eq 22, 3) := by decide +kernel
theorem dX2_yearsKept_8 : decode cX2_yearsKept 8 = .ok (.aload_n 0, 1) := by decide +kernel
theorem dX2_yearsKept_9 : decode cX2_yearsKept 9 = .ok (.getfield 9, 3) := by decide +kernel
theorem dX2_yearsKept_12 : decode cX2_yearsKept 12 = .ok (.iload_n 1, 1) := by decide +kernel
theorem dX2_yearsKept_13 : decode cX2_yearsKept 13 = .ok (.iaload, 1) := by decide +kernel
theorem dX2_yearsKept_14 : decode cX2_yearsKept 14 = .ok (.aload_n 0, 1) := by decide +kernel
theorem dX2_yearsKept_15 : decode cX2_yearsKept 15 = .ok (.getfield 15, 3) := by decide +kernel
theorem dX2_yearsKept_18 : decode cX2_yearsKept 18 = .ok (.iload_n 1, 1) := by decide +kernel
theorem dX2_yearsKept_19 : decode cX2_yearsKept 19 = .ok (.iaload, 1) := by decide +kernel
theorem dX2_yearsKept_20 : decode cX2_yearsKept 20 = .ok (.iload_n 2, 1) := by decide +kernel
theorem dX2_yearsKept_21 : decode cX2_yearsKept 21 = .ok (.invokestatic 57, 3) := by decide +kernel
theorem dX2_yearsKept_24 : decode cX2_yearsKept 24 = .ok (.goto 4, 3) := by decide +kernel
theorem dX2_yearsKept_27 : decode cX2_yearsKept 27 = .ok (.iconst (-1), 1) := by decide +kernel
theorem dX2_yearsKept_28 : decode cX2_yearsKept 28 = .ok (.ireturn, 1) := by decide +kernel
set_option maxRecDepth 20000 in
theorem ggX2_eggsOfAYear_X2_hasKeeper : GoodIn wsX2_eggsOfAYear wsX2_hasKeeper := goodIn_r _ [6, 7, 11, 12, 13, 14, 15] (by decide +kernel) (by decide +kernel)
set_option maxRecDepth 20000 in
theorem gX2_eggsOfAYear_X2_hasKeeper : GoodIn wsX2_eggsOfAYear (wsV RX2 53 RX2 yX2_hasKeeper wsX2_hasKeeper) := goodIn_app (goodIn_of _ (by decide +kernel)) ggX2_eggsOfAYear_X2_hasKeeper
set_option maxRecDepth 20000 in
theorem ggX2_eggsOfAYear_X5_isOfKind : GoodIn wsX2_eggsOfAYear wsX5_isOfKind := goodIn_r _ [10] (by decide +kernel) (by decide +kernel)
set_option maxRecDepth 20000 in
theorem gX2_eggsOfAYear_X5_isOfKind_n61 : GoodIn wsX2_eggsOfAYear (wsX5_isOfKind) := ggX2_eggsOfAYear_X5_isOfKind
theorem dX2_eggsOfAYear_0 : decode cX2_eggsOfAYear 0 = .ok (.aload_n 0, 1) := by decide +kernel
theorem dX2_eggsOfAYear_1 : decode cX2_eggsOfAYear 1 = .ok (.iload_n 1, 1) := by decide +kernel
theorem dX2_eggsOfAYear_2 : decode cX2_eggsOfAYear 2 = .ok (.invokevirtual 53, 3) := by decide +kernel
theorem dX2_eggsOfAYear_5 : decode cX2_eggsOfAYear 5 = .ok (.ifCond .eq 20, 3) := by decide +kernel
theorem dX2_eggsOfAYear_8 : decode cX2_eggsOfAYear 8 = .ok (.aload_n 0, 1) := by decide +kernel
theorem dX2_eggsOfAYear_9 : decode cX2_eggsOfAYear 9 = .ok (.getfield 9, 3) := by decide +kernel
theorem dX2_eggsOfAYear_12 : decode cX2_eggsOfAYear 12 = .ok (.iload_n 1, 1) := by decide +kernel
theorem dX2_eggsOfAYear_13 : decode cX2_eggsOfAYear 13 = .ok (.iaload, 1) := by decide +kernel
theorem dX2_eggsOfAYear_14 : decode cX2_eggsOfAYear 14 = .ok (.iconst 2, 1) := by decide +kernel
theorem dX2_eggsOfAYear_15 : decode cX2_eggsOfAYear 15 = .ok (.invokestatic 61, 3) := by decide +kernel
theorem dX2_eggsOfAYear_18 : decode cX2_eggsOfAYear 18 = .ok (.ifCond .eq 7, 3) := by decide +kernel
theorem dX2_eggsOfAYear_21 : decode cX2_eggsOfAYear 21 = .ok (.iconst 0, 1) := by decide +kernel
theorem dX2_eggsOfAYear_22 : decode cX2_eggsOfAYear 22 = .ok (.goto 4, 3) := by decide +kernel
theorem dX2_eggsOfAYear_25 : decode cX2_eggsOfAYear 25 = .ok (.iconst 1, 1) := by decide +kernel
theorem dX2_eggsOfAYear_26 : decode cX2_eggsOfAYear 26 = .ok (.ireturn, 1) := by decide +kernel
theorem dX3_init_0 : decode cX3_init 0 = .ok (.aload_n 0, 1) := by decide +kernel
theorem dX3_init_1 : decode cX3_init 1 = .ok (.invokespecial 3, 3) := by decide +kernel
theorem dX3_init_4 : decode cX3_init 4 = .ok (.aload_n 0, 1) := by decide +kernel
theorem dX3_init_5 : decode cX3_init 5 = .ok (.iconst 5, 1) := by decide +kernel
theorem dX3_init_6 : decode cX3_init 6 = .ok (.iconst 5, 1) := by decide +kernel
theorem dX3_init_7 : decode cX3_init 7 = .ok (.multianewarray 9 2, 4) := by decide +kernel
theorem dX3_init_11 : decode cX3_init 11 = .ok (.putfield 11, 3) := by decide +kernel
theorem dX3_init_14 : decode cX3_init 14 = .ok (.aload_n 0, 1) := by decide +kernel
theorem dX3_init_15 : decode cX3_init 15 = .ok (.bipush 6, 2) := by decide +kernel
theorem dX3_init_17 : decode cX3_init 17 = .ok (.newarray .int, 2) := by decide +kernel
theorem dX3_init_19 : decode cX3_init 19 = .ok (.putfield 16, 3) := by decide +kernel
theorem dX3_init_22 : decode cX3_init 22 = .ok (.aload_n 0, 1) := by decide +kernel
theorem dX3_init_23 : decode cX3_init 23 = .ok (.iconst 5, 1) := by decide +kernel
theorem dX3_init_24 : decode cX3_init 24 = .ok (.newarray .int, 2) := by decide +kernel
theorem dX3_init_26 : decode cX3_init 26 = .ok (.putfield 20, 3) := by decide +kernel
theorem dX3_init_29 : decode cX3_init 29 = .ok (.aload_n 0, 1) := by decide +kernel
theorem dX3_init_30 : decode cX3_init 30 = .ok (.iconst 5, 1) := by decide +kernel
theorem dX3_init_31 : decode cX3_init 31 = .ok (.newarray .int, 2) := by decide +kernel
theorem dX3_init_33 : decode cX3_init 33 = .ok (.putfield 23, 3) := by decide +kernel
theorem dX3_init_36 : decode cX3_init 36 = .ok (.aload_n 0, 1) := by decide +kernel
theorem dX3_init_37 : decode cX3_init 37 = .ok (.iconst 5, 1) := by decide +kernel
theorem dX3_init_38 : decode cX3_init 38 = .ok (.newarray .int, 2) := by decide +kernel
theorem dX3_init_40 : decode cX3_init 40 = .ok (.putfield 26, 3) := by decide +kernel
theorem dX3_init_43 : decode cX3_init 43 = .ok (.return_, 1) := by decide +kernel
set_option maxRecDepth 20000 in
theorem ggX3_solve_X2_hasKeeper : GoodIn wsX3_solve wsX2_hasKeeper := goodIn_r _ [10, 11, 85, 86, 87, 88, 89] (by decide +kernel) (by decide +kernel)
set_option maxRecDepth 20000 in
theorem gX3_solve_X2_hasKeeper : GoodIn wsX3_solve (wsV RX3 29 RX2 yX2_hasKeeper wsX2_hasKeeper) := goodIn_app (goodIn_of _ (by decide +kernel)) ggX3_solve_X2_hasKeeper
set_option maxRecDepth 20000 in
theorem ggX3_solve_X0_roomOf : GoodIn wsX3_solve wsX0_roomOf := goodIn_r _ [16, 17, 18, 19, 15, 20, 21, 22, 23, 24, 25, 26, 27, 28, 76, 77, 78, 79, 80, 81, 82, 83, 84] (by decide +kernel) (by decide +kernel)
set_option maxRecDepth 20000 in
theorem gX3_solve_X0_roomOf : GoodIn wsX3_solve (wsV RX3 35 RX0 yX0_roomOf wsX0_roomOf) := goodIn_app (goodIn_of _ (by decide +kernel)) ggX3_solve_X0_roomOf
set_option maxRecDepth 20000 in
theorem ggX3_solve_X2_hasHole : GoodIn wsX3_solve wsX2_hasHole := goodIn_r _ [32, 33, 85, 86, 87, 88, 89] (by decide +kernel) (by decide +kernel)
set_option maxRecDepth 20000 in
theorem gX3_solve_X2_hasHole : GoodIn wsX3_solve (wsV RX3 41 RX2 yX2_hasHole wsX2_hasHole) := goodIn_app (goodIn_of _ (by decide +kernel)) ggX3_solve_X2_hasHole
set_option maxRecDepth 20000 in
theorem ggX3_solve_X3_weigh : GoodIn wsX3_solve wsX3_weigh := goodIn_r _ [38, 39, 40, 41, 42, 43, 44, 45, 46, 47, 9, 48, 49, 50, 51, 7, 8, 10, 11, 52, 53, 54, 55, 56, 57, 58, 59, 60, 61, 70, 71, 72, 73, 74, 75, 85, 86, 87, 88, 89] (by decide +kernel) (by decide +kernel)
set_option maxRecDepth 20000 in
theorem gX3_solve_X3_weigh : GoodIn wsX3_solve (wsV RX3 47 RX3 yX3_weigh wsX3_weigh) := goodIn_app (goodIn_of _ (by decide +kernel)) ggX3_solve_X3_weigh
set_option maxRecDepth 20000 in
theorem ggX3_solve_X3_search : GoodIn wsX3_solve wsX3_search := goodIn_r _ [64, 3, 5, 4, 65, 66, 67, 68, 69, 1, 39, 62, 63, 37, 70, 71, 72, 73, 74, 75] (by decide +kernel) (by decide +kernel)
set_option maxRecDepth 20000 in
theorem gX3_solve_X3_search : GoodIn wsX3_solve (va_wsS RX3 55 yX3_search wsX3_search) := goodIn_app (goodIn_of _ (by decide +kernel)) ggX3_solve_X3_search
theorem dX3_solve_0 : decode cX3_solve 0 = .ok (.iconst 0, 1) := by decide +kernel
theorem dX3_solve_1 : decode cX3_solve 1 = .ok (.istore_n 3, 1) := by decide +kernel
theorem dX3_solve_2 : decode cX3_solve 2 = .ok (.iload_n 3, 1) := by decide +kernel
theorem dX3_solve_3 : decode cX3_solve 3 = .ok (.iconst 5, 1) := by decide +kernel
theorem dX3_solve_4 : decode cX3_solve 4 = .ok (.if_icmp .ge 32, 3) := by decide +kernel
theorem dX3_solve_7 : decode cX3_solve 7 = .ok (.aload_n 0, 1) := by decide +kernel
theorem dX3_solve_8 : decode cX3_solve 8 = .ok (.getfield 20, 3) := by decide +kernel
theorem dX3_solve_11 : decode cX3_solve 11 = .ok (.iload_n 3, 1) := by decide +kernel
theorem dX3_solve_12 : decode cX3_solve 12 = .ok (.aload_n 1, 1) := by decide +kernel
theorem dX3_solve_13 : decode cX3_solve 13 = .ok (.iload_n 3, 1) := by decide +kernel
theorem dX3_solve_14 : decode cX3_solve 14 = .ok (.invokevirtual 29, 3) := by decide +kernel
theorem dX3_solve_17 : decode cX3_solve 17 = .ok (.ifCond .eq 11, 3) := by decide +kernel
theorem dX3_solve_20 : decode cX3_solve 20 = .ok (.aload_n 2, 1) := by decide +kernel
theorem dX3_solve_21 : decode cX3_solve 21 = .ok (.iload_n 3, 1) := by decide +kernel
theorem dX3_solve_22 : decode cX3_solve 22 = .ok (.invokevirtual 35, 3) := by decide +kernel
theorem dX3_solve_25 : decode cX3_solve 25 = .ok (.goto 4, 3) := by decide +kernel
theorem dX3_solve_28 : decode cX3_solve 28 = .ok (.iconst 0, 1) := by decide +kernel
theorem dX3_solve_29 : decode cX3_solve 29 = .ok (.iastore, 1) := by decide +kernel
theorem dX3_solve_30 : decode cX3_solve 30 = .ok (.iinc 3 1, 3) := by decide +kernel
theorem dX3_solve_33 : decode cX3_solve 33 = .ok (.goto (-31), 3) := by decide +kernel
theorem dX3_solve_36 : decode cX3_solve 36 = .ok (.iconst 4, 1) := by decide +kernel
theorem dX3_solve_37 : decode cX3_solve 37 = .ok (.istore_n 3, 1) := by decide +kernel
theorem dX3_solve_38 : decode cX3_solve 38 = .ok (.iload_n 3, 1) := by decide +kernel
theorem dX3_solve_39 : decode cX3_solve 39 = .ok (.ifCond .lt 63, 3) := by decide +kernel
theorem dX3_solve_42 : decode cX3_solve 42 = .ok (.aload_n 1, 1) := by decide +kernel
theorem dX3_solve_43 : decode cX3_solve 43 = .ok (.iload_n 3, 1) := by decide +kernel
theorem dX3_solve_44 : decode cX3_solve 44 = .ok (.invokevirtual 41, 3) := by decide +kernel
theorem dX3_solve_47 : decode cX3_solve 47 = .ok (.ifCond .eq 16, 3) := by decide +kernel
theorem dX3_solve_50 : decode cX3_solve 50 = .ok (.aload_n 2, 1) := by decide +kernel
theorem dX3_solve_51 : decode cX3_solve 51 = .ok (.getfield 44, 3) := by decide +kernel
theorem dX3_solve_54 : decode cX3_solve 54 = .ok (.iload_n 3, 1) := by decide +kernel
theorem dX3_solve_55 : decode cX3_solve 55 = .ok (.iaload, 1) := by decide +kernel
theorem dX3_solve_56 : decode cX3_solve 56 = .ok (.ifCond .ne 7, 3) := by decide +kernel
theorem dX3_solve_59 : decode cX3_solve 59 = .ok (.iconst 1, 1) := by decide +kernel
theorem dX3_solve_60 : decode cX3_solve 60 = .ok (.goto 4, 3) := by decide +kernel
theorem dX3_solve_63 : decode cX3_solve 63 = .ok (.iconst 0, 1) := by decide +kernel
theorem dX3_solve_64 : decode cX3_solve 64 = .ok (.istore 4, 2) := by decide +kernel
theorem dX3_solve_66 : decode cX3_solve 66 = .ok (.aload_n 0, 1) := by decide +kernel
theorem dX3_solve_67 : decode cX3_solve 67 = .ok (.getfield 16, 3) := by decide +kernel
theorem dX3_solve_70 : decode cX3_solve 70 = .ok (.iload_n 3, 1) := by decide +kernel
theorem dX3_solve_71 : decode cX3_solve 71 = .ok (.aload_n 0, 1) := by decide +kernel
theorem dX3_solve_72 : decode cX3_solve 72 = .ok (.getfield 16, 3) := by decide +kernel
theorem dX3_solve_75 : decode cX3_solve 75 = .ok (.iload_n 3, 1) := by decide +kernel
theorem dX3_solve_76 : decode cX3_solve 76 = .ok (.iconst 1, 1) := by decide +kernel
theorem dX3_solve_77 : decode cX3_solve 77 = .ok (.iadd, 1) := by decide +kernel
theorem dX3_solve_78 : decode cX3_solve 78 = .ok (.iaload, 1) := by decide +kernel
theorem dX3_solve_79 : decode cX3_solve 79 = .ok (.aload_n 0, 1) := by decide +kernel
theorem dX3_solve_80 : decode cX3_solve 80 = .ok (.aload_n 1, 1) := by decide +kernel
theorem dX3_solve_81 : decode cX3_solve 81 = .ok (.iload_n 3, 1) := by decide +kernel
theorem dX3_solve_82 : decode cX3_solve 82 = .ok (.iload 4, 2) := by decide +kernel
theorem dX3_solve_84 : decode cX3_solve 84 = .ok (.invokevirtual 47, 3) := by decide +kernel
theorem dX3_solve_87 : decode cX3_solve 87 = .ok (.iadd, 1) := by decide +kernel
theorem dX3_solve_88 : decode cX3_solve 88 = .ok (.iastore, 1) := by decide +kernel
theorem dX3_solve_89 : decode cX3_solve 89 = .ok (.aload_n 0, 1) := by decide +kernel
theorem dX3_solve_90 : decode cX3_solve 90 = .ok (.getfield 23, 3) := by decide +kernel
theorem dX3_solve_93 : decode cX3_solve 93 = .ok (.iload_n 3, 1) := by decide +kernel
theorem dX3_solve_94 : decode cX3_solve 94 = .ok (.iconst (-1), 1) := by decide +kernel
theorem dX3_solve_95 : decode cX3_solve 95 = .ok (.iastore, 1) := by decide +kernel
theorem dX3_solve_96 : decode cX3_solve 96 = .ok (.iinc 3 (-1), 3) := by decide +kernel
theorem dX3_solve_99 : decode cX3_solve 99 = .ok (.goto (-61), 3) := by decide +kernel
theorem dX3_solve_102 : decode cX3_solve 102 = .ok (.aload_n 0, 1) := by decide +kernel
theorem dX3_solve_103 : decode cX3_solve 103 = .ok (.iconst (-1), 1) := by decide +kernel
theorem dX3_solve_104 : decode cX3_solve 104 = .ok (.putfield 51, 3) := by decide +kernel
theorem dX3_solve_107 : decode cX3_solve 107 = .ok (.aload_n 0, 1) := by decide +kernel
theorem dX3_solve_108 : decode cX3_solve 108 = .ok (.iconst 0, 1) := by decide +kernel
theorem dX3_solve_109 : decode cX3_solve 109 = .ok (.iconst 0, 1) := by decide +kernel
theorem dX3_solve_110 : decode cX3_solve 110 = .ok (.invokestatic 55, 3) := by decide +kernel
theorem dX3_solve_113 : decode cX3_solve 113 = .ok (.return_, 1) := by decide +kernel
set_option maxRecDepth 20000 in
theorem ggX3_weigh_X2_yearsKept : GoodIn wsX3_weigh wsX2_yearsKept := goodIn_r _ [11, 12, 13, 14, 15, 16, 10, 17, 18, 19, 20, 21, 22, 23, 5, 24, 25, 4, 6, 26, 27, 28, 35, 36, 37, 38, 39] (by decide +kernel) (by decide +kernel)
set_option maxRecDepth 20000 in
theorem gX3_weigh_X2_yearsKept : GoodIn wsX3_weigh (wsV RX3 62 RX2 yX2_yearsKept wsX2_yearsKept) := goodIn_app (goodIn_of _ (by decide +kernel)) ggX3_weigh_X2_yearsKept
theorem dX3_weigh_0 : decode cX3_weigh 0 = .ok (.iconst 0, 1) := by decide +kernel
theorem dX3_weigh_1 : decode cX3_weigh 1 = .ok (.istore 4, 2) := by decide +kernel
theorem dX3_weigh_3 : decode cX3_weigh 3 = .ok (.iconst 0, 1) := by decide +kernel
theorem dX3_weigh_4 : decode cX3_weigh 4 = .ok (.istore 5, 2) := by decide +kernel
theorem dX3_weigh_6 : decode cX3_weigh 6 = .ok (.iload 5, 2) := by decide +kernel
theorem dX3_weigh_8 : decode cX3_weigh 8 = .ok (.iconst 5, 1) := by decide +kernel
theorem dX3_weigh_9 : decode cX3_weigh 9 = .ok (.if_icmp .ge 54, 3) := by decide +kernel
theorem dX3_weigh_12 : decode cX3_weigh 12 = .ok (.aload_n 0, 1) := by decide +kernel
theorem dX3_weigh_13 : decode cX3_weigh 13 = .ok (.getfield 11, 3) := by decide +kernel
theorem dX3_weigh_16 : decode cX3_weigh 16 = .ok (.iload_n 2, 1) := by decide +kernel
theorem dX3_weigh_17 : decode cX3_weigh 17 = .ok (.aaload, 1) := by decide +kernel
theorem dX3_weigh_18 : decode cX3_weigh 18 = .ok (.iload 5, 2) := by decide +kernel
theorem dX3_weigh_20 : decode cX3_weigh 20 = .ok (.iload_n 3, 1) := by decide +kernel
theorem dX3_weigh_21 : decode cX3_weigh 21 = .ok (.ifCond .eq 18, 3) := by decide +kernel
theorem dX3_weigh_24 : decode cX3_weigh 24 = .ok (.aload_n 1, 1) := by decide +kernel
theorem dX3_weigh_25 : decode cX3_weigh 25 = .ok (.iload 5, 2) := by decide +kernel
theorem dX3_weigh_27 : decode cX3_weigh 27 = .ok (.aload_n 1, 1) := by decide +kernel
theorem dX3_weigh_28 : decode cX3_weigh 28 = .ok (.getfield 59, 3) := by decide +kernel
theorem dX3_weigh_31 : decode cX3_weigh 31 = .ok (.iload_n 2, 1) := by decide +kernel
theorem dX3_weigh_32 : decode cX3_weigh 32 = .ok (.iaload, 1) := by decide +kernel
theorem dX3_weigh_33 : decode cX3_weigh 33 = .ok (.invokevirtual 62, 3) := by decide +kernel
theorem dX3_weigh_36 : decode cX3_weigh 36 = .ok (.goto 4, 3) := by decide +kernel
theorem dX3_weigh_39 : decode cX3_weigh 39 = .ok (.iconst 0, 1) := by decide +kernel
theorem dX3_weigh_40 : decode cX3_weigh 40 = .ok (.iastore, 1) := by decide +kernel
theorem dX3_weigh_41 : decode cX3_weigh 41 = .ok (.iload 4, 2) := by decide +kernel
theorem dX3_weigh_43 : decode cX3_weigh 43 = .ok (.aload_n 0, 1) := by decide +kernel
theorem dX3_weigh_44 : decode cX3_weigh 44 = .ok (.getfield 11, 3) := by decide +kernel
theorem dX3_weigh_47 : decode cX3_weigh 47 = .ok (.iload_n 2, 1) := by decide +kernel
theorem dX3_weigh_48 : decode cX3_weigh 48 = .ok (.aaload, 1) := by decide +kernel
theorem dX3_weigh_49 : decode cX3_weigh 49 = .ok (.iload 5, 2) := by decide +kernel
theorem dX3_weigh_51 : decode cX3_weigh 51 = .ok (.iaload, 1) := by decide +kernel
theorem dX3_weigh_52 : decode cX3_weigh 52 = .ok (.invokestatic 66, 3) := by decide +kernel
theorem dX3_weigh_55 : decode cX3_weigh 55 = .ok (.istore 4, 2) := by decide +kernel
theorem dX3_weigh_57 : decode cX3_weigh 57 = .ok (.iinc 5 1, 3) := by decide +kernel
theorem dX3_weigh_60 : decode cX3_weigh 60 = .ok (.goto (-54), 3) := by decide +kernel
theorem dX3_weigh_63 : decode cX3_weigh 63 = .ok (.iload 4, 2) := by decide +kernel
theorem dX3_weigh_65 : decode cX3_weigh 65 = .ok (.ireturn, 1) := by decide +kernel
set_option maxRecDepth 20000 in
theorem ggX3_search_X3_search : GoodIn wsX3_search wsX3_search := goodIn_r _ [0, 1, 2, 3, 4, 5, 6, 7, 8, 9, 10, 11, 12, 13, 14, 15, 16, 17, 18, 19] (by decide +kernel) (by decide +kernel)
set_option maxRecDepth 20000 in
theorem gX3_search_X3_search : GoodIn wsX3_search (va_wsS RX3 55 yX3_search wsX3_search) := goodIn_app (goodIn_of _ (by decide +kernel)) ggX3_search_X3_search
theorem dX3_search_0 : decode cX3_search 0 = .ok (.iload_n 2, 1) := by decide +kernel
theorem dX3_search_1 : decode cX3_search 1 = .ok (.aload_n 0, 1) := by decide +kernel
theorem dX3_search_2 : decode cX3_search 2 = .ok (.getfield 16, 3) := by decide +kernel
theorem dX3_search_5 : decode cX3_search 5 = .ok (.iload_n 1, 1) := by decide +kernel
theorem dX3_search_6 : decode cX3_search 6 = .ok (.iaload, 1) := by decide +kernel
theorem dX3_search_7 : decode cX3_search 7 = .ok (.iadd, 1) := by decide +kernel
theorem dX3_search_8 : decode cX3_search 8 = .ok (.aload_n 0, 1) := by decide +kernel
theorem dX3_search_9 : decode cX3_search 9 = .ok (.getfield 51, 3) := by decide +kernel
theorem dX3_search_12 : decode cX3_search 12 = .ok (.if_icmp .gt 4, 3) := by decide +kernel
theorem dX3_search_15 : decode cX3_search 15 = .ok (.return_, 1) := by decide +kernel
theorem dX3_search_16 : decode cX3_search 16 = .ok (.iload_n 1, 1) := by decide +kernel
theorem dX3_search_17 : decode cX3_search 17 = .ok (.iconst 5, 1) := by decide +kernel
theorem dX3_search_18 : decode cX3_search 18 = .ok (.if_icmp .lt 23, 3) := by decide +kernel
theorem dX3_search_21 : decode cX3_search 21 = .ok (.aload_n 0, 1) := by decide +kernel
theorem dX3_search_22 : decode cX3_search 22 = .ok (.iload_n 2, 1) := by decide +kernel
theorem dX3_search_23 : decode cX3_search 23 = .ok (.putfield 51, 3) := by decide +kernel
theorem dX3_search_26 : decode cX3_search 26 = .ok (.aload_n 0, 1) := by decide +kernel
theorem dX3_search_27 : decode cX3_search 27 = .ok (.getfield 23, 3) := by decide +kernel
theorem dX3_search_30 : decode cX3_search 30 = .ok (.iconst 0, 1) := by decide +kernel
theorem dX3_search_31 : decode cX3_search 31 = .ok (.aload_n 0, 1) := by decide +kernel
theorem dX3_search_32 : decode cX3_search 32 = .ok (.getfield 26, 3) := by decide +kernel
theorem dX3_search_35 : decode cX3_search 35 = .ok (.iconst 0, 1) := by decide +kernel
theorem dX3_search_36 : decode cX3_search 36 = .ok (.iconst 5, 1) := by decide +kernel
theorem dX3_search_37 : decode cX3_search 37 = .ok (.invokestatic 71, 3) := by decide +kernel
theorem dX3_search_40 : decode cX3_search 40 = .ok (.return_, 1) := by decide +kernel
theorem dX3_search_41 : decode cX3_search 41 = .ok (.aload_n 0, 1) := by decide +kernel
theorem dX3_search_42 : decode cX3_search 42 = .ok (.iload_n 1, 1) := by decide +kernel
theorem dX3_search_43 : decode cX3_search 43 = .ok (.iconst 1, 1) := by decide +kernel
theorem dX3_search_44 : decode cX3_search 44 = .ok (.iadd, 1) := by decide +kernel
theorem dX3_search_45 : decode cX3_search 45 = .ok (.iload_n 2, 1) := by decide +kernel
theorem dX3_search_46 : decode cX3_search 46 = .ok (.invokestatic 55, 3) := by decide +kernel
theorem dX3_search_49 : decode cX3_search 49 = .ok (.iconst 0, 1) := by decide +kernel
theorem dX3_search_50 : decode cX3_search 50 = .ok (.istore_n 3, 1) := by decide +kernel
theorem dX3_search_51 : decode cX3_search 51 = .ok (.iload_n 3, 1) := by decide +kernel
theorem dX3_search_52 : decode cX3_search 52 = .ok (.iconst 5, 1) := by decide +kernel
theorem dX3_search_53 : decode cX3_search 53 = .ok (.if_icmp .ge 73, 3) := by decide +kernel
theorem dX3_search_56 : decode cX3_search 56 = .ok (.aload_n 0, 1) := by decide +kernel
theorem dX3_search_57 : decode cX3_search 57 = .ok (.getfield 20, 3) := by decide +kernel
theorem dX3_search_60 : decode cX3_search 60 = .ok (.iload_n 3, 1) := by decide +kernel
theorem dX3_search_61 : decode cX3_search 61 = .ok (.iaload, 1) := by decide +kernel
theorem dX3_search_62 : decode cX3_search 62 = .ok (.ifCond .le 58, 3) := by decide +kernel
theorem dX3_search_65 : decode cX3_search 65 = .ok (.aload_n 0, 1) := by decide +kernel
theorem dX3_search_66 : decode cX3_search 66 = .ok (.getfield 11, 3) := by decide +kernel
theorem dX3_search_69 : decode cX3_search 69 = .ok (.iload_n 1, 1) := by decide +kernel
theorem dX3_search_70 : decode cX3_search 70 = .ok (.aaload, 1) := by decide +kernel
theorem dX3_search_71 : decode cX3_search 71 = .ok (.iload_n 3, 1) := by decide +kernel
theorem dX3_search_72 : decode cX3_search 72 = .ok (.iaload, 1) := by decide +kernel
theorem dX3_search_73 : decode cX3_search 73 = .ok (.ifCond .le 47, 3) := by decide +kernel
theorem dX3_search_76 : decode cX3_search 76 = .ok (.aload_n 0, 1) := by decide +kernel
theorem dX3_search_77 : decode cX3_search 77 = .ok (.getfield 20, 3) := by decide +kernel
theorem dX3_search_80 : decode cX3_search 80 = .ok (.iload_n 3, 1) := by decide +kernel
theorem dX3_search_81 : decode cX3_search 81 = .ok (.dup2, 1) := by decide +kernel
theorem dX3_search_82 : decode cX3_search 82 = .ok (.iaload, 1) := by decide +kernel
theorem dX3_search_83 : decode cX3_search 83 = .ok (.iconst 1, 1) := by decide +kernel
theorem dX3_search_84 : decode cX3_search 84 = .ok (.isub, 1) := by decide +kernel
theorem dX3_search_85 : decode cX3_search 85 = .ok (.iastore, 1) := by decide +kernel
theorem dX3_search_86 : decode cX3_search 86 = .ok (.aload_n 0, 1) := by decide +kernel
theorem dX3_search_87 : decode cX3_search 87 = .ok (.getfield 23, 3) := by decide +kernel
theorem dX3_search_90 : decode cX3_search 90 = .ok (.iload_n 1, 1) := by decide +kernel
theorem dX3_search_91 : decode cX3_search 91 = .ok (.iload_n 3, 1) := by decide +kernel
theorem dX3_search_92 : decode cX3_search 92 = .ok (.iastore, 1) := by decide +kernel
theorem dX3_search_93 : decode cX3_search 93 = .ok (.aload_n 0, 1) := by decide +kernel
theorem dX3_search_94 : decode cX3_search 94 = .ok (.iload_n 1, 1) := by decide +kernel
theorem dX3_search_95 : decode cX3_search 95 = .ok (.iconst 1, 1) := by decide +kernel
theorem dX3_search_96 : decode cX3_search 96 = .ok (.iadd, 1) := by decide +kernel
theorem dX3_search_97 : decode cX3_search 97 = .ok (.iload_n 2, 1) := by decide +kernel
theorem dX3_search_98 : decode cX3_search 98 = .ok (.aload_n 0, 1) := by decide +kernel
theorem dX3_search_99 : decode cX3_search 99 = .ok (.getfield 11, 3) := by decide +kernel
theorem dX3_search_102 : decode cX3_search 102 = .ok (.iload_n 1, 1) := by decide +kernel
theorem dX3_search_103 : decode cX3_search 103 = .ok (.aaload, 1) := by decide +kernel
theorem dX3_search_104 : decode cX3_search 104 = .ok (.iload_n 3, 1) := by decide +kernel
theorem dX3_search_105 : decode cX3_search 105 = .ok (.iaload, 1) := by decide +kernel
theorem dX3_search_106 : decode cX3_search 106 = .ok (.iadd, 1) := by decide +kernel
theorem dX3_search_107 : decode cX3_search 107 = .ok (.invokestatic 55, 3) := by decide +kernel
theorem dX3_search_110 : decode cX3_search 110 = .ok (.aload_n 0, 1) := by decide +kernel
theorem dX3_search_111 : decode cX3_search 111 = .ok (.getfield 20, 3) := by decide +kernel
theorem dX3_search_114 : decode cX3_search 114 = .ok (.iload_n 3, 1) := by decide +kernel
theorem dX3_search_115 : decode cX3_search 115 = .ok (.dup2, 1) := by decide +kernel
theorem dX3_search_116 : decode cX3_search 116 = .ok (.iaload, 1) := by decide +kernel
theorem dX3_search_117 : decode cX3_search 117 = .ok (.iconst 1, 1) := by decide +kernel
theorem dX3_search_118 : decode cX3_search 118 = .ok (.iadd, 1) := by decide +kernel
theorem dX3_search_119 : decode cX3_search 119 = .ok (.iastore, 1) := by decide +kernel
theorem dX3_search_120 : decode cX3_search 120 = .ok (.iinc 3 1, 3) := by decide +kernel
theorem dX3_search_123 : decode cX3_search 123 = .ok (.goto (-72), 3) := by decide +kernel
theorem dX3_search_126 : decode cX3_search 126 = .ok (.aload_n 0, 1) := by decide +kernel
theorem dX3_search_127 : decode cX3_search 127 = .ok (.getfield 23, 3) := by decide +kernel
theorem dX3_search_130 : decode cX3_search 130 = .ok (.iload_n 1, 1) := by decide +kernel
theorem dX3_search_131 : decode cX3_search 131 = .ok (.iconst (-1), 1) := by decide +kernel
theorem dX3_search_132 : decode cX3_search 132 = .ok (.iastore, 1) := by decide +kernel
theorem dX3_search_133 : decode cX3_search 133 = .ok (.return_, 1) := by decide +kernel
theorem dX4_init_0 : decode cX4_init 0 = .ok (.aload_n 0, 1) := by decide +kernel
theorem dX4_init_1 : decode cX4_init 1 = .ok (.invokespecial 3, 3) := by decide +kernel
theorem dX4_init_4 : decode cX4_init 4 = .ok (.aload_n 0, 1) := by decide +kernel
theorem dX4_init_5 : decode cX4_init 5 = .ok (.bipush 22, 2) := by decide +kernel
theorem dX4_init_7 : decode cX4_init 7 = .ok (.newarray .int, 2) := by decide +kernel
theorem dX4_init_9 : decode cX4_init 9 = .ok (.putfield 9, 3) := by decide +kernel
theorem dX4_init_12 : decode cX4_init 12 = .ok (.return_, 1) := by decide +kernel
set_option maxRecDepth 20000 in
theorem ggX4_scan_X4_fits : GoodIn wsX4_scan wsX4_fits := goodIn_r _ [7, 8, 1, 9, 10, 6, 11, 12, 13, 14, 15, 16, 17, 18, 19, 20, 21, 22, 23, 24, 25, 26, 27, 28, 29, 30, 31, 32, 33, 34, 35, 36, 37, 38, 39, 40, 41, 42, 43, 44, 45, 46, 47, 48, 49, 50, 51, 52, 53, 54, 55, 56, 57, 58, 59, 60, 61, 62, 63, 64, 65, 66, 67, 68, 69, 70, 71, 72, 73, 74, 75, 76, 77, 78, 79, 80, 81, 82, 83, 84, 85, 86, 87, 88, 89, 90, 91, 92, 93, 94, 95, 96, 97, 98, 99, 100, 101, 102, 103, 104, 105, 106, 107] (by decide +kernel) (by decide +kernel)
set_option maxRecDepth 20000 in
theorem gX4_scan_X4_fits : GoodIn wsX4_scan (wsV RX4 22 RX4 yX4_fits wsX4_fits) := goodIn_app (goodIn_of _ (by decide +kernel)) ggX4_scan_X4_fits
theorem dX4_scan_0 : decode cX4_scan 0 = .ok (.aload_n 0, 1) := by decide +kernel
theorem dX4_scan_1 : decode cX4_scan 1 = .ok (.iconst 0, 1) := by decide +kernel
theorem dX4_scan_2 : decode cX4_scan 2 = .ok (.putfield 15, 3) := by decide +kernel
theorem dX4_scan_5 : decode cX4_scan 5 = .ok (.iconst 0, 1) := by decide +kernel
theorem dX4_scan_6 : decode cX4_scan 6 = .ok (.istore_n 1, 1) := by decide +kernel
theorem dX4_scan_7 : decode cX4_scan 7 = .ok (.iload_n 1, 1) := by decide +kernel
theorem dX4_scan_8 : decode cX4_scan 8 = .ok (.aload_n 0, 1) := by decide +kernel
theorem dX4_scan_9 : decode cX4_scan 9 = .ok (.getfield 19, 3) := by decide +kernel
theorem dX4_scan_12 : decode cX4_scan 12 = .ok (.if_icmp .ge 19, 3) := by decide +kernel
theorem dX4_scan_15 : decode cX4_scan 15 = .ok (.aload_n 0, 1) := by decide +kernel
theorem dX4_scan_16 : decode cX4_scan 16 = .ok (.iload_n 1, 1) := by decide +kernel
theorem dX4_scan_17 : decode cX4_scan 17 = .ok (.invokevirtual 22, 3) := by decide +kernel
theorem dX4_scan_20 : decode cX4_scan 20 = .ok (.ifCond .ne 5, 3) := by decide +kernel
theorem dX4_scan_23 : decode cX4_scan 23 = .ok (.iload_n 1, 1) := by decide +kernel
theorem dX4_scan_24 : decode cX4_scan 24 = .ok (.ireturn, 1) := by decide +kernel
theorem dX4_scan_25 : decode cX4_scan 25 = .ok (.iinc 1 1, 3) := by decide +kernel
theorem dX4_scan_28 : decode cX4_scan 28 = .ok (.goto (-21), 3) := by decide +kernel
theorem dX4_scan_31 : decode cX4_scan 31 = .ok (.aload_n 0, 1) := by decide +kernel
theorem dX4_scan_32 : decode cX4_scan 32 = .ok (.getfield 19, 3) := by decide +kernel
theorem dX4_scan_35 : decode cX4_scan 35 = .ok (.ireturn, 1) := by decide +kernel
set_option maxRecDepth 20000 in
theorem ggX4_isTower_X4_scan : GoodIn wsX4_isTower wsX4_scan := goodIn_r _ [7, 2, 1, 8, 9, 10, 6, 11, 12, 13, 14, 15, 16, 17, 18, 19, 20, 21, 22, 23, 24, 25, 26, 27, 28, 29, 30, 31, 32, 33, 34, 35, 36, 37, 38, 39, 40, 41, 42, 43, 44, 45, 46, 47, 48, 49, 50, 51, 52, 53, 54, 55, 56, 57, 58, 59, 60, 61, 62, 63, 64, 65, 66, 67, 68, 69, 70, 71, 72, 73, 74, 75, 76, 77, 78, 79, 80, 81, 82, 83, 84, 85, 86, 87, 88, 89, 90, 91, 92, 93, 94, 95, 96, 97, 98, 99, 100, 101, 102, 103, 104, 105, 106, 107, 108, 109, 110, 111] (by decide +kernel) (by decide +kernel)
set_option maxRecDepth 20000 in
theorem gX4_isTower_X4_scan : GoodIn wsX4_isTower (wsV RX4 26 RX4 yX4_scan wsX4_scan) := goodIn_app (goodIn_of _ (by decide +kernel)) ggX4_isTower_X4_scan
theorem dX4_isTower_0 : decode cX4_isTower 0 = .ok (.aload_n 0, 1) := by decide +kernel
theorem dX4_isTower_1 : decode cX4_isTower 1 = .ok (.invokevirtual 26, 3) := by decide +kernel
theorem dX4_isTower_4 : decode cX4_isTower 4 = .ok (.aload_n 0, 1) := by decide +kernel
theorem dX4_isTower_5 : decode cX4_isTower 5 = .ok (.getfield 19, 3) := by decide +kernel
theorem dX4_isTower_8 : decode cX4_isTower 8 = .ok (.if_icmp .ne 27, 3) := by decide +kernel
theorem dX4_isTower_11 : decode cX4_isTower 11 = .ok (.aload_n 0, 1) := by decide +kernel
theorem dX4_isTower_12 : decode cX4_isTower 12 = .ok (.getfield 15, 3) := by decide +kernel
theorem dX4_isTower_15 : decode cX4_isTower 15 = .ok (.ifCond .le 20, 3) := by decide +kernel
theorem dX4_isTower_18 : decode cX4_isTower 18 = .ok (.aload_n 0, 1) := by decide +kernel
theorem dX4_isTower_19 : decode cX4_isTower 19 = .ok (.getfield 19, 3) := by decide +kernel
theorem dX4_isTower_22 : decode cX4_isTower 22 = .ok (.aload_n 0, 1) := by decide +kernel
theorem dX4_isTower_23 : decode cX4_isTower 23 = .ok (.getfield 15, 3) := by decide +kernel
theorem dX4_isTower_26 : decode cX4_isTower 26 = .ok (.isub, 1) := by decide +kernel
theorem dX4_isTower_27 : decode cX4_isTower 27 = .ok (.iconst 2, 1) := by decide +kernel
theorem dX4_isTower_28 : decode cX4_isTower 28 = .ok (.if_icmp .lt 7, 3) := by decide +kernel
theorem dX4_isTower_31 : decode cX4_isTower 31 = .ok (.iconst 1, 1) := by decide +kernel
theorem dX4_isTower_32 : decode cX4_isTower 32 = .ok (.goto 4, 3) := by decide +kernel
theorem dX4_isTower_35 : decode cX4_isTower 35 = .ok (.iconst 0, 1) := by decide +kernel
theorem dX4_isTower_36 : decode cX4_isTower 36 = .ok (.ireturn, 1) := by decide +kernel
set_option maxRecDepth 20000 in
theorem ggX4_fits_X4_isDigit : GoodIn wsX4_fits wsX4_isDigit := goodIn_r _ [6] (by decide +kernel) (by decide +kernel)
set_option maxRecDepth 20000 in
theorem gX4_fits_X4_isDigit : GoodIn wsX4_fits (va_wsS RX4 30 yX4_isDigit wsX4_isDigit) := goodIn_app (goodIn_of _ (by decide +kernel)) ggX4_fits_X4_isDigit
set_option maxRecDepth 20000 in
theorem ggX4_fits_J0_indexOf_0f7a4 : GoodIn wsX4_fits wsJ0_indexOf_0f7a4 := goodIn_r _ [11, 12, 13, 14, 10, 15, 16, 17, 18, 19, 20, 21, 22, 23, 24, 25, 26, 27, 28, 29, 30, 31, 32, 33, 34, 35, 36, 37, 38, 39, 40, 41, 42, 43, 44, 45, 46, 47, 48, 49, 50, 51, 52, 53, 54, 55, 56, 57, 58, 59, 60, 61, 62, 63, 64, 65, 66, 67, 68, 69, 70, 71, 72, 73, 74, 75, 76, 77, 78, 79, 80, 81, 82, 83, 84, 85, 86, 87, 88, 89, 90, 91, 92, 93, 94, 95] (by decide +kernel) (by decide +kernel)
set_option maxRecDepth 20000 in
theorem gX4_fits_J0_indexOf_0f7a4 : GoodIn wsX4_fits (wsV RX4 35 RJ0 yJ0_indexOf_0f7a4 wsJ0_indexOf_0f7a4) := goodIn_app (goodIn_of _ (by decide +kernel)) ggX4_fits_J0_indexOf_0f7a4
set_option maxRecDepth 20000 in
theorem ggX4_fits_X4_endsKeeper : GoodIn wsX4_fits wsX4_endsKeeper := goodIn_r _ [99, 2, 100, 101, 102] (by decide +kernel) (by decide +kernel)
set_option maxRecDepth 20000 in
theorem gX4_fits_X4_endsKeeper : GoodIn wsX4_fits (wsV RX4 41 RX4 yX4_endsKeeper wsX4_endsKeeper) := goodIn_app (goodIn_of _ (by decide +kernel)) ggX4_fits_X4_endsKeeper
theorem dX4_fits_0 : decode cX4_fits 0 = .ok (.aload_n 0, 1) := by decide +kernel
theorem dX4_fits_1 : decode cX4_fits 1 = .ok (.getfield 9, 3) := by decide +kernel
theorem dX4_fits_4 : decode cX4_fits 4 = .ok (.iload_n 1, 1) := by decide +kernel
theorem dX4_fits_5 : decode cX4_fits 5 = .ok (.iaload, 1) := by decide +kernel
theorem dX4_fits_6 : decode cX4_fits 6 = .ok (.istore_n 2, 1) := by decide +kernel
theorem dX4_fits_7 : decode cX4_fits 7 = .ok (.aload_n 0, 1) := by decide +kernel
theorem dX4_fits_8 : decode cX4_fits 8 = .ok (.getfield 15, 3) := by decide +kernel
theorem dX4_fits_11 : decode cX4_fits 11 = .ok (.ifCond .le 26, 3) := by decide +kernel
theorem dX4_fits_14 : decode cX4_fits 14 = .ok (.iload_n 2, 1) := by decide +kernel
theorem dX4_fits_15 : decode cX4_fits 15 = .ok (.invokestatic 30, 3) := by decide +kernel
theorem dX4_fits_18 : decode cX4_fits 18 = .ok (.ifCond .eq 17, 3) := by decide +kernel
theorem dX4_fits_21 : decode cX4_fits 21 = .ok (.iload_n 1, 1) := by decide +kernel
theorem dX4_fits_22 : decode cX4_fits 22 = .ok (.aload_n 0, 1) := by decide +kernel
theorem dX4_fits_23 : decode cX4_fits 23 = .ok (.getfield 15, 3) := by decide +kernel
theorem dX4_fits_26 : decode cX4_fits 26 = .ok (.isub, 1) := by decide +kernel
theorem dX4_fits_27 : decode cX4_fits 27 = .ok (.iconst 5, 1) := by decide +kernel
theorem dX4_fits_28 : decode cX4_fits 28 = .ok (.if_icmp .ge 7, 3) := by decide +kernel
theorem dX4_fits_31 : decode cX4_fits 31 = .ok (.iconst 1, 1) := by decide +kernel
theorem dX4_fits_32 : decode cX4_fits 32 = .ok (.goto 4, 3) := by decide +kernel
theorem dX4_fits_35 : decode cX4_fits 35 = .ok (.iconst 0, 1) := by decide +kernel
theorem dX4_fits_36 : decode cX4_fits 36 = .ok (.ireturn, 1) := by decide +kernel
theorem dX4_fits_37 : decode cX4_fits 37 = .ok (.iload_n 1, 1) := by decide +kernel
theorem dX4_fits_38 : decode cX4_fits 38 = .ok (.iconst 3, 1) := by decide +kernel
theorem dX4_fits_39 : decode cX4_fits 39 = .ok (.irem, 1) := by decide +kernel
theorem dX4_fits_40 : decode cX4_fits 40 = .ok (.lookupswitch 49 #[(0, 28), (1, 44)], 28) := by decide +kernel
theorem dX4_fits_68 : decode cX4_fits 68 = .ok (.ldc 33, 2) := by decide +kernel
theorem dX4_fits_70 : decode cX4_fits 70 = .ok (.iload_n 2, 1) := by decide +kernel
theorem dX4_fits_71 : decode cX4_fits 71 = .ok (.i2c, 1) := by decide +kernel
theorem dX4_fits_72 : decode cX4_fits 72 = .ok (.invokevirtual 35, 3) := by decide +kernel
theorem dX4_fits_75 : decode cX4_fits 75 = .ok (.ifCond .lt 7, 3) := by decide +kernel
theorem dX4_fits_78 : decode cX4_fits 78 = .ok (.iconst 1, 1) := by decide +kernel
theorem dX4_fits_79 : decode cX4_fits 79 = .ok (.goto 4, 3) := by decide +kernel
theorem dX4_fits_82 : decode cX4_fits 82 = .ok (.iconst 0, 1) := by decide +kernel
theorem dX4_fits_83 : decode cX4_fits 83 = .ok (.ireturn, 1) := by decide +kernel
theorem dX4_fits_84 : decode cX4_fits 84 = .ok (.iload_n 2, 1) := by decide +kernel
theorem dX4_fits_85 : decode cX4_fits 85 = .ok (.invokestatic 30, 3) := by decide +kernel
theorem dX4_fits_88 : decode cX4_fits 88 = .ok (.ireturn, 1) := by decide +kernel
theorem dX4_fits_89 : decode cX4_fits 89 = .ok (.aload_n 0, 1) := by decide +kernel
theorem dX4_fits_90 : decode cX4_fits 90 = .ok (.iload_n 1, 1) := by decide +kernel
theorem dX4_fits_91 : decode cX4_fits 91 = .ok (.iload_n 2, 1) := by decide +kernel
theorem dX4_fits_92 : decode cX4_fits 92 = .ok (.invokevirtual 41, 3) := by decide +kernel
theorem dX4_fits_95 : decode cX4_fits 95 = .ok (.ireturn, 1) := by decide +kernel
theorem dX4_endsKeeper_0 : decode cX4_endsKeeper 0 = .ok (.iload_n 1, 1) := by decide +kernel
theorem dX4_endsKeeper_1 : decode cX4_endsKeeper 1 = .ok (.iconst 3, 1) := by decide +kernel
theorem dX4_endsKeeper_2 : decode cX4_endsKeeper 2 = .ok (.idiv, 1) := by decide +kernel
theorem dX4_endsKeeper_3 : decode cX4_endsKeeper 3 = .ok (.iconst 1, 1) := by decide +kernel
theorem dX4_endsKeeper_4 : decode cX4_endsKeeper 4 = .ok (.iadd, 1) := by decide +kernel
theorem dX4_endsKeeper_5 : decode cX4_endsKeeper 5 = .ok (.istore_n 3, 1) := by decide +kernel
theorem dX4_endsKeeper_6 : decode cX4_endsKeeper 6 = .ok (.iload_n 2, 1) := by decide +kernel
theorem dX4_endsKeeper_7 : decode cX4_endsKeeper 7 = .ok (.bipush 59, 2) := by decide +kernel
theorem dX4_endsKeeper_9 : decode cX4_endsKeeper 9 = .ok (.if_icmp .ne 17, 3) := by decide +kernel
theorem dX4_endsKeeper_12 : decode cX4_endsKeeper 12 = .ok (.iload_n 3, 1) := by decide +kernel
theorem dX4_endsKeeper_13 : decode cX4_endsKeeper 13 = .ok (.iconst 2, 1) := by decide +kernel
theorem dX4_endsKeeper_14 : decode cX4_endsKeeper 14 = .ok (.if_icmp .lt 12, 3) := by decide +kernel
theorem dX4_endsKeeper_17 : decode cX4_endsKeeper 17 = .ok (.aload_n 0, 1) := by decide +kernel
theorem dX4_endsKeeper_18 : decode cX4_endsKeeper 18 = .ok (.iload_n 1, 1) := by decide +kernel
theorem dX4_endsKeeper_19 : decode cX4_endsKeeper 19 = .ok (.iconst 1, 1) := by decide +kernel
theorem dX4_endsKeeper_20 : decode cX4_endsKeeper 20 = .ok (.iadd, 1) := by decide +kernel
theorem dX4_endsKeeper_21 : decode cX4_endsKeeper 21 = .ok (.putfield 15, 3) := by decide +kernel
theorem dX4_endsKeeper_24 : decode cX4_endsKeeper 24 = .ok (.iconst 1, 1) := by decide +kernel
theorem dX4_endsKeeper_25 : decode cX4_endsKeeper 25 = .ok (.ireturn, 1) := by decide +kernel
theorem dX4_endsKeeper_26 : decode cX4_endsKeeper 26 = .ok (.iload_n 2, 1) := by decide +kernel
theorem dX4_endsKeeper_27 : decode cX4_endsKeeper 27 = .ok (.bipush 44, 2) := by decide +kernel
theorem dX4_endsKeeper_29 : decode cX4_endsKeeper 29 = .ok (.if_icmp .ne 12, 3) := by decide +kernel
theorem dX4_endsKeeper_32 : decode cX4_endsKeeper 32 = .ok (.iload_n 3, 1) := by decide +kernel
theorem dX4_endsKeeper_33 : decode cX4_endsKeeper 33 = .ok (.iconst 5, 1) := by decide +kernel
theorem dX4_endsKeeper_34 : decode cX4_endsKeeper 34 = .ok (.if_icmp .ge 7, 3) := by decide +kernel
theorem dX4_endsKeeper_37 : decode cX4_endsKeeper 37 = .ok (.iconst 1, 1) := by decide +kernel
theorem dX4_endsKeeper_38 : decode cX4_endsKeeper 38 = .ok (.goto 4, 3) := by decide +kernel
theorem dX4_endsKeeper_41 : decode cX4_endsKeeper 41 = .ok (.iconst 0, 1) := by decide +kernel
theorem dX4_endsKeeper_42 : decode cX4_endsKeeper 42 = .ok (.ireturn, 1) := by decide +kernel
theorem dX4_isDigit_0 : decode cX4_isDigit 0 = .ok (.iload_n 0, 1) := by decide +kernel
theorem dX4_isDigit_1 : decode cX4_isDigit 1 = .ok (.bipush 48, 2) := by decide +kernel
theorem dX4_isDigit_3 : decode cX4_isDigit 3 = .ok (.if_icmp .lt 13, 3) := by decide +kernel
theorem dX4_isDigit_6 : decode cX4_isDigit 6 = .ok (.iload_n 0, 1) := by decide +kernel
theorem dX4_isDigit_7 : decode cX4_isDigit 7 = .ok (.bipush 57, 2) := by decide +kernel
theorem dX4_isDigit_9 : decode cX4_isDigit 9 = .ok (.if_icmp .gt 7, 3) := by decide +kernel
theorem dX4_isDigit_12 : decode cX4_isDigit 12 = .ok (.iconst 1, 1) := by decide +kernel
theorem dX4_isDigit_13 : decode cX4_isDigit 13 = .ok (.goto 4, 3) := by decide +kernel
theorem dX4_isDigit_16 : decode cX4_isDigit 16 = .ok (.iconst 0, 1) := by decide +kernel
theorem dX4_isDigit_17 : decode cX4_isDigit 17 = .ok (.ireturn, 1) := by decide +kernel
set_option maxRecDepth 20000 in
theorem ggX5_init_X4_init : GoodIn wsX5_init wsX4_init := goodIn_r _ [28, 29, 2, 3, 30, 31, 67, 68, 69] (by decide +kernel) (by decide +kernel)
set_option maxRecDepth 20000 in
theorem gX5_init_X4_init_n9 : GoodIn wsX5_init (wsX4_init) := ggX5_init_X4_init
set_option maxRecDepth 20000 in
theorem ggX5_init_X2_init : GoodIn wsX5_init wsX2_init := goodIn_r _ [33, 34, 2, 3, 30, 35, 36, 37, 78, 79, 80, 81, 82] (by decide +kernel) (by decide +kernel)
set_option maxRecDepth 20000 in
theorem gX5_init_X2_init_n18 : GoodIn wsX5_init (wsX2_init) := ggX5_init_X2_init
set_option maxRecDepth 20000 in
theorem ggX5_init_X0_init : GoodIn wsX5_init wsX0_init := goodIn_r _ [40, 41, 2, 3, 30, 42, 43, 44, 45, 46, 47, 48, 49, 50, 51, 52, 53, 83, 84, 85, 86, 87, 88, 89, 90, 91] (by decide +kernel) (by decide +kernel)
set_option maxRecDepth 20000 in
theorem gX5_init_X0_init : GoodIn wsX5_init (wsX0_init) := ggX5_init_X0_init
set_option maxRecDepth 20000 in
theorem ggX5_init_X3_init : GoodIn wsX5_init wsX3_init := goodIn_r _ [55, 56, 2, 3, 57, 30, 58, 59, 60, 61, 62, 92, 93, 94, 95, 96, 97] (by decide +kernel) (by decide +kernel)
set_option maxRecDepth 20000 in
theorem gX5_init_X3_init_n35 : GoodIn wsX5_init (wsX3_init) := ggX5_init_X3_init
set_option maxRecDepth 20000 in
theorem ggX5_init_X1_init : GoodIn wsX5_init wsX1_init := goodIn_r _ [64, 65, 2, 3, 30, 66, 98, 99, 100] (by decide +kernel) (by decide +kernel)
set_option maxRecDepth 20000 in
theorem gX5_init_X1_init_n42 : GoodIn wsX5_init (wsX1_init) := ggX5_init_X1_init
theorem dX5_init_0 : decode cX5_init 0 = .ok (.aload_n 0, 1) := by decide +kernel
theorem dX5_init_1 : decode cX5_init 1 = .ok (.invokespecial 1, 3) := by decide +kernel
theorem dX5_init_4 : decode cX5_init 4 = .ok (.aload_n 0, 1) := by decide +kernel
theorem dX5_init_5 : decode cX5_init 5 = .ok (.new 7, 3) := by decide +kernel
theorem dX5_init_8 : decode cX5_init 8 = .ok (.dup, 1) := by decide +kernel
theorem dX5_init_9 : decode cX5_init 9 = .ok (.invokespecial 9, 3) := by decide +kernel
theorem dX5_init_12 : decode cX5_init 12 = .ok (.putfield 10, 3) := by decide +kernel
theorem dX5_init_15 : decode cX5_init 15 = .ok (.aload_n 0, 1) := by decide +kernel
theorem dX5_init_16 : decode cX5_init 16 = .ok (.new 16, 3) := by decide +kernel
theorem dX5_init_19 : decode cX5_init 19 = .ok (.dup, 1) := by decide +kernel
theorem dX5_init_20 : decode cX5_init 20 = .ok (.invokespecial 18, 3) := by decide +kernel
theorem dX5_init_23 : decode cX5_init 23 = .ok (.putfield 19, 3) := by decide +kernel
theorem dX5_init_26 : decode cX5_init 26 = .ok (.aload_n 0, 1) := by decide +kernel
theorem dX5_init_27 : decode cX5_init 27 = .ok (.new 23, 3) := by decide +kernel
theorem dX5_init_30 : decode cX5_init 30 = .ok (.dup, 1) := by decide +kernel
theorem dX5_init_31 : decode cX5_init 31 = .ok (.invokespecial 25, 3) := by decide +kernel
theorem dX5_init_34 : decode cX5_init 34 = .ok (.putfield 26, 3) := by decide +kernel
theorem dX5_init_37 : decode cX5_init 37 = .ok (.aload_n 0, 1) := by decide +kernel
theorem dX5_init_38 : decode cX5_init 38 = .ok (.new 23, 3) := by decide +kernel
theorem dX5_init_41 : decode cX5_init 41 = .ok (.dup, 1) := by decide +kernel
theorem dX5_init_42 : decode cX5_init 42 = .ok (.invokespecial 25, 3) := by decide +kernel
theorem dX5_init_45 : decode cX5_init 45 = .ok (.putfield 30, 3) := by decide +kernel
theorem dX5_init_48 : decode cX5_init 48 = .ok (.aload_n 0, 1) := by decide +kernel
theorem dX5_init_49 : decode cX5_init 49 = .ok (.new 33, 3) := by decide +kernel
theorem dX5_init_52 : decode cX5_init 52 = .ok (.dup, 1) := by decide +kernel
theorem dX5_init_53 : decode cX5_init 53 = .ok (.invokespecial 35, 3) := by decide +kernel
theorem dX5_init_56 : decode cX5_init 56 = .ok (.putfield 36, 3) := by decide +kernel
theorem dX5_init_59 : decode cX5_init 59 = .ok (.aload_n 0, 1) := by decide +kernel
theorem dX5_init_60 : decode cX5_init 60 = .ok (.new 40, 3) := by decide +kernel
theorem dX5_init_63 : decode cX5_init 63 = .ok (.dup, 1) := by decide +kernel
theorem dX5_init_64 : decode cX5_init 64 = .ok (.invokespecial 42, 3) := by decide +kernel
theorem dX5_init_67 : decode cX5_init 67 = .ok (.putfield 43, 3) := by decide +kernel
theorem dX5_init_70 : decode cX5_init 70 = .ok (.aload_n 0, 1) := by decide +kernel
theorem dX5_init_71 : decode cX5_init 71 = .ok (.iconst 0, 1) := by decide +kernel
theorem dX5_init_72 : decode cX5_init 72 = .ok (.putfield 47, 3) := by decide +kernel
theorem dX5_init_75 : decode cX5_init 75 = .ok (.aload_n 0, 1) := by decide +kernel
theorem dX5_init_76 : decode cX5_init 76 = .ok (.iconst 0, 1) := by decide +kernel
theorem dX5_init_77 : decode cX5_init 77 = .ok (.putfield 51, 3) := by decide +kernel
theorem dX5_init_80 : decode cX5_init 80 = .ok (.return_, 1) := by decide +kernel
theorem dX5_letter_0 : decode cX5_letter 0 = .ok (.iload_n 1, 1) := by decide +kernel
theorem dX5_letter_1 : decode cX5_letter 1 = .ok (.iconst 1, 1) := by decide +kernel
theorem dX5_letter_2 : decode cX5_letter 2 = .ok (.if_icmp .lt 9, 3) := by decide +kernel
theorem dX5_letter_5 : decode cX5_letter 5 = .ok (.iload_n 1, 1) := by decide +kernel
theorem dX5_letter_6 : decode cX5_letter 6 = .ok (.bipush 126, 2) := by decide +kernel
theorem dX5_letter_8 : decode cX5_letter 8 = .ok (.if_icmp .le 6, 3) := by decide +kernel
theorem dX5_letter_11 : decode cX5_letter 11 = .ok (.bipush (-102), 2) := by decide +kernel
theorem dX5_letter_13 : decode cX5_letter 13 = .ok (.ireturn, 1) := by decide +kernel
theorem dX5_letter_14 : decode cX5_letter 14 = .ok (.aload_n 0, 1) := by decide +kernel
theorem dX5_letter_15 : decode cX5_letter 15 = .ok (.getfield 10, 3) := by decide +kernel
theorem dX5_letter_18 : decode cX5_letter 18 = .ok (.getfield 55, 3) := by decide +kernel
theorem dX5_letter_21 : decode cX5_letter 21 = .ok (.bipush 22, 2) := by decide +kernel
theorem dX5_letter_23 : decode cX5_letter 23 = .ok (.if_icmp .lt 6, 3) := by decide +kernel
theorem dX5_letter_26 : decode cX5_letter 26 = .ok (.bipush (-104), 2) := by decide +kernel
theorem dX5_letter_28 : decode cX5_letter 28 = .ok (.ireturn, 1) := by decide +kernel
theorem dX5_letter_29 : decode cX5_letter 29 = .ok (.aload_n 0, 1) := by decide +kernel
theorem dX5_letter_30 : decode cX5_letter 30 = .ok (.getfield 10, 3) := by decide +kernel
theorem dX5_letter_33 : decode cX5_letter 33 = .ok (.getfield 58, 3) := by decide +kernel
theorem dX5_letter_36 : decode cX5_letter 36 = .ok (.aload_n 0, 1) := by decide +kernel
theorem dX5_letter_37 : decode cX5_letter 37 = .ok (.getfield 10, 3) := by decide +kernel
theorem dX5_letter_40 : decode cX5_letter 40 = .ok (.getfield 55, 3) := by decide +kernel
theorem dX5_letter_43 : decode cX5_letter 43 = .ok (.iload_n 1, 1) := by decide +kernel
theorem dX5_letter_44 : decode cX5_letter 44 = .ok (.iastore, 1) := by decide +kernel
theorem dX5_letter_45 : decode cX5_letter 45 = .ok (.aload_n 0, 1) := by decide +kernel
theorem dX5_letter_46 : decode cX5_letter 46 = .ok (.getfield 10, 3) := by decide +kernel
theorem dX5_letter_49 : decode cX5_letter 49 = .ok (.dup, 1) := by decide +kernel
theorem dX5_letter_50 : decode cX5_letter 50 = .ok (.getfield 55, 3) := by decide +kernel
theorem dX5_letter_53 : decode cX5_letter 53 = .ok (.iconst 1, 1) := by decide +kernel
theorem dX5_letter_54 : decode cX5_letter 54 = .ok (.iadd, 1) := by decide +kernel
theorem dX5_letter_55 : decode cX5_letter 55 = .ok (.putfield 55, 3) := by decide +kernel
theorem dX5_letter_58 : decode cX5_letter 58 = .ok (.aload_n 0, 1) := by decide +kernel
theorem dX5_letter_59 : decode cX5_letter 59 = .ok (.getfield 10, 3) := by decide +kernel
theorem dX5_letter_62 : decode cX5_letter 62 = .ok (.getfield 55, 3) := by decide +kernel
theorem dX5_letter_65 : decode cX5_letter 65 = .ok (.ireturn, 1) := by decide +kernel
theorem dX5_blank_0 : decode cX5_blank 0 = .ok (.aload_n 0, 1) := by decide +kernel
theorem dX5_blank_1 : decode cX5_blank 1 = .ok (.getfield 10, 3) := by decide +kernel
theorem dX5_blank_4 : decode cX5_blank 4 = .ok (.getfield 55, 3) := by decide +kernel
theorem dX5_blank_7 : decode cX5_blank 7 = .ok (.istore_n 1, 1) := by decide +kernel
theorem dX5_blank_8 : decode cX5_blank 8 = .ok (.aload_n 0, 1) := by decide +kernel
theorem dX5_blank_9 : decode cX5_blank 9 = .ok (.getfield 10, 3) := by decide +kernel
theorem dX5_blank_12 : decode cX5_blank 12 = .ok (.iconst 0, 1) := by decide +kernel
theorem dX5_blank_13 : decode cX5_blank 13 = .ok (.putfield 55, 3) := by decide +kernel
theorem dX5_blank_16 : decode cX5_blank 16 = .ok (.iload_n 1, 1) := by decide +kernel
theorem dX5_blank_17 : decode cX5_blank 17 = .ok (.ireturn, 1) := by decide +kernel
set_option maxRecDepth 20000 in
theorem ggX5_fault_X4_scan : GoodIn wsX5_fault wsX4_scan := goodIn_r _ [6, 7, 8, 9, 10, 11, 5, 12, 13, 14, 15, 16, 17, 18, 19, 20, 21, 22, 23, 24, 25, 26, 27, 28, 29, 30, 31, 32, 33, 34, 35, 36, 37, 38, 39, 40, 41, 42, 43, 44, 45, 46, 47, 48, 49, 50, 51, 52, 53, 54, 55, 56, 57, 58, 59, 60, 61, 62, 63, 64, 65, 66, 67, 68, 69, 70, 71, 72, 73, 74, 75, 76, 77, 78, 79, 80, 81, 82, 83, 84, 85, 86, 87, 88, 89, 90, 91, 92, 93, 94, 95, 96, 97, 98, 99, 100, 101, 102, 103, 104, 105, 106, 107, 108, 109, 118, 119, 120] (by decide +kernel) (by decide +kernel)
set_option maxRecDepth 20000 in
theorem gX5_fault_X4_scan : GoodIn wsX5_fault (wsV RX5 62 RX4 yX4_scan wsX4_scan) := goodIn_app (goodIn_of _ (by decide +kernel)) ggX5_fault_X4_scan
theorem dX5_fault_0 : decode cX5_fault 0 = .ok (.aload_n 0, 1) := by decide +kernel
theorem dX5_fault_1 : decode cX5_fault 1 = .ok (.getfield 10, 3) := by decide +kernel
theorem dX5_fault_4 : decode cX5_fault 4 = .ok (.invokevirtual 62, 3) := by decide +kernel
theorem dX5_fault_7 : decode cX5_fault 7 = .ok (.ireturn, 1) := by decide +kernel
set_option maxRecDepth 20000 in
theorem ggX5_tower_X4_isTower : GoodIn wsX5_tower wsX4_isTower := goodIn_r _ [12, 13, 14, 15, 16, 17, 11, 18, 19, 20, 21, 22, 23, 24, 25, 26, 27, 28, 29, 30, 31, 32, 33, 34, 35, 36, 37, 38, 39, 40, 41, 42, 43, 44, 45, 46, 47, 48, 49, 50, 51, 52, 53, 54, 55, 56, 57, 58, 59, 60, 61, 62, 63, 64, 65, 66, 67, 68, 69, 70, 71, 72, 73, 74, 75, 76, 77, 78, 79, 80, 81, 82, 83, 84, 85, 86, 87, 88, 89, 90, 91, 92, 93, 94, 95, 96, 97, 98, 99, 100, 101, 102, 103, 104, 105, 106, 107, 108, 109, 110, 111, 112, 113, 114, 115, 116, 117, 118, 119, 162, 163, 164] (by decide +kernel) (by decide +kernel)
set_option maxRecDepth 20000 in
theorem gX5_tower_X4_isTower : GoodIn wsX5_tower (wsV RX5 66 RX4 yX4_isTower wsX4_isTower) := goodIn_app (goodIn_of _ (by decide +kernel)) ggX5_tower_X4_isTower
set_option maxRecDepth 20000 in
theorem ggX5_tower_X2_readFrom : GoodIn wsX5_tower wsX2_readFrom := goodIn_r _ [124, 125, 126, 60, 57, 61, 127, 128, 129, 130, 131, 132, 133, 134, 28, 29, 30, 31, 32, 33, 34, 35, 36, 37, 38, 39, 40, 41, 42, 43, 44, 45, 46, 47, 48, 49, 50, 51, 52, 53, 54, 55, 56, 58, 59, 62, 63, 64, 65, 66, 67, 68, 69, 70, 71, 72, 73, 74, 75, 76, 77, 78, 79, 80, 81, 82, 83, 84, 85, 86, 87, 88, 89, 90, 91, 92, 93, 94, 95, 96, 97, 98, 99, 100, 101, 102, 103, 104, 105, 106, 107, 108, 109, 110, 111, 112, 113, 114, 115, 162, 163, 164, 165, 166, 167, 168, 169] (by decide +kernel) (by decide +kernel)
set_option maxRecDepth 20000 in
theorem gX5_tower_X2_readFrom : GoodIn wsX5_tower (wsV RX5 70 RX2 yX2_readFrom wsX2_readFrom) := goodIn_app (goodIn_of _ (by decide +kernel)) ggX5_tower_X2_readFrom
set_option maxRecDepth 20000 in
theorem ggX5_tower_X0_clear : GoodIn wsX5_tower wsX0_clear := goodIn_r _ [139, 140, 141, 142, 143, 144, 145, 138, 146, 147, 148, 149, 150, 151, 152, 153, 170, 171, 172, 173, 174, 175, 176, 177, 178] (by decide +kernel) (by decide +kernel)
set_option maxRecDepth 20000 in
theorem gX5_tower_X0_clear : GoodIn wsX5_tower (wsV RX5 74 RX0 yX0_clear wsX0_clear) := goodIn_app (goodIn_of _ (by decide +kernel)) ggX5_tower_X0_clear
theorem dX5_tower_0 : decode cX5_tower 0 = .ok (.aload_n 0, 1) := by decide +kernel
theorem dX5_tower_1 : decode cX5_tower 1 = .ok (.getfield 10, 3) := by decide +kernel
theorem dX5_tower_4 : decode cX5_tower 4 = .ok (.invokevirtual 66, 3) := by decide +kernel
theorem dX5_tower_7 : decode cX5_tower 7 = .ok (.ifCond .ne 6, 3) := by decide +kernel
theorem dX5_tower_10 : decode cX5_tower 10 = .ok (.bipush (-103), 2) := by decide +kernel
theorem dX5_tower_12 : decode cX5_tower 12 = .ok (.ireturn, 1) := by decide +kernel
theorem dX5_tower_13 : decode cX5_tower 13 = .ok (.aload_n 0, 1) := by decide +kernel
theorem dX5_tower_14 : decode cX5_tower 14 = .ok (.getfield 19, 3) := by decide +kernel
theorem dX5_tower_17 : decode cX5_tower 17 = .ok (.aload_n 0, 1) := by decide +kernel
theorem dX5_tower_18 : decode cX5_tower 18 = .ok (.getfield 10, 3) := by decide +kernel
theorem dX5_tower_21 : decode cX5_tower 21 = .ok (.invokevirtual 70, 3) := by decide +kernel
theorem dX5_tower_24 : decode cX5_tower 24 = .ok (.aload_n 0, 1) := by decide +kernel
theorem dX5_tower_25 : decode cX5_tower 25 = .ok (.getfield 26, 3) := by decide +kernel
theorem dX5_tower_28 : decode cX5_tower 28 = .ok (.invokevirtual 74, 3) := by decide +kernel
theorem dX5_tower_31 : decode cX5_tower 31 = .ok (.aload_n 0, 1) := by decide +kernel
theorem dX5_tower_32 : decode cX5_tower 32 = .ok (.iconst 0, 1) := by decide +kernel
theorem dX5_tower_33 : decode cX5_tower 33 = .ok (.putfield 47, 3) := by decide +kernel
theorem dX5_tower_36 : decode cX5_tower 36 = .ok (.aload_n 0, 1) := by decide +kernel
theorem dX5_tower_37 : decode cX5_tower 37 = .ok (.dup, 1) := by decide +kernel
theorem dX5_tower_38 : decode cX5_tower 38 = .ok (.getfield 51, 3) := by decide +kernel
theorem dX5_tower_41 : decode cX5_tower 41 = .ok (.iconst 1, 1) := by decide +kernel
theorem dX5_tower_42 : decode cX5_tower 42 = .ok (.iadd, 1) := by decide +kernel
theorem dX5_tower_43 : decode cX5_tower 43 = .ok (.putfield 51, 3) := by decide +kernel
theorem dX5_tower_46 : decode cX5_tower 46 = .ok (.aload_n 0, 1) := by decide +kernel
theorem dX5_tower_47 : decode cX5_tower 47 = .ok (.getfield 10, 3) := by decide +kernel
theorem dX5_tower_50 : decode cX5_tower 50 = .ok (.iconst 0, 1) := by decide +kernel
theorem dX5_tower_51 : decode cX5_tower 51 = .ok (.putfield 55, 3) := by decide +kernel
theorem dX5_tower_54 : decode cX5_tower 54 = .ok (.aload_n 0, 1) := by decide +kernel
theorem dX5_tower_55 : decode cX5_tower 55 = .ok (.getfield 19, 3) := by decide +kernel
theorem dX5_tower_58 : decode cX5_tower 58 = .ok (.getfield 77, 3) := by decide +kernel
theorem dX5_tower_61 : decode cX5_tower 61 = .ok (.ireturn, 1) := by decide +kernel
set_option maxRecDepth 20000 in
theorem ggX5_keeper_X2_hasKeeper : GoodIn wsX5_keeper wsX2_hasKeeper := goodIn_r _ [10, 11, 61, 62, 63, 64, 65] (by decide +kernel) (by decide +kernel)
set_option maxRecDepth 20000 in
theorem gX5_keeper_X2_hasKeeper : GoodIn wsX5_keeper (wsV RX5 80 RX2 yX2_hasKeeper wsX2_hasKeeper) := goodIn_app (goodIn_of _ (by decide +kernel)) ggX5_keeper_X2_hasKeeper
set_option maxRecDepth 20000 in
theorem ggX5_keeper_X0_holesOf : GoodIn wsX5_keeper wsX0_holesOf := goodIn_r _ [16, 17, 66, 67, 68, 69, 70, 71, 72, 73, 74] (by decide +kernel) (by decide +kernel)
set_option maxRecDepth 20000 in
theorem gX5_keeper_X0_holesOf : GoodIn wsX5_keeper (wsV RX5 90 RX0 yX0_holesOf wsX0_holesOf) := goodIn_app (goodIn_of _ (by decide +kernel)) ggX5_keeper_X0_holesOf
set_option maxRecDepth 20000 in
theorem ggX5_keeper_X0_eggsOf : GoodIn wsX5_keeper wsX0_eggsOf := goodIn_r _ [21, 17, 22, 66, 67, 68, 69, 70, 71, 72, 73, 74] (by decide +kernel) (by decide +kernel)
set_option maxRecDepth 20000 in
theorem gX5_keeper_X0_eggsOf : GoodIn wsX5_keeper (wsV RX5 94 RX0 yX0_eggsOf wsX0_eggsOf) := goodIn_app (goodIn_of _ (by decide +kernel)) ggX5_keeper_X0_eggsOf
set_option maxRecDepth 20000 in
theorem ggX5_keeper_X5_possibleFaiths : GoodIn wsX5_keeper wsX5_possibleFaiths := goodIn_r _ [27, 28, 29, 30, 26, 31, 4, 32, 33, 1, 2, 34, 35, 36, 37, 38, 39, 40, 41, 42, 43, 44, 45, 46, 47, 48, 53, 54, 55, 56, 57, 58, 59, 60, 66, 67, 68, 69, 70, 71, 72, 73, 74, 61, 62, 63, 64, 65] (by decide +kernel) (by decide +kernel)
set_option maxRecDepth 20000 in
theorem gX5_keeper_X5_possibleFaiths : GoodIn wsX5_keeper (wsV RX5 100 RX5 yX5_possibleFaiths wsX5_possibleFaiths) := goodIn_app (goodIn_of _ (by decide +kernel)) ggX5_keeper_X5_possibleFaiths
set_option maxRecDepth 20000 in
theorem ggX5_keeper_X5_likelyFaith : GoodIn wsX5_keeper wsX5_likelyFaith := goodIn_r _ [52, 28, 29, 30, 26, 31, 4, 32, 33, 1, 2, 34, 35, 36, 37, 38, 39, 40, 41, 42, 43, 44, 45, 46, 47, 48, 53, 54, 55, 56, 57, 58, 59, 60, 66, 67, 68, 69, 70, 71, 72, 73, 74, 61, 62, 63, 64, 65] (by decide +kernel) (by decide +kernel)
set_option maxRecDepth 20000 in
theorem gX5_keeper_X5_likelyFaith : GoodIn wsX5_keeper (wsV RX5 103 RX5 yX5_likelyFaith wsX5_likelyFaith) := goodIn_app (goodIn_of _ (by decide +kernel)) ggX5_keeper_X5_likelyFaith
theorem dX5_keeper_0 : decode cX5_keeper 0 = .ok (.aload_n 0, 1) := by decide +kernel
theorem dX5_keeper_1 : decode cX5_keeper 1 = .ok (.getfield 19, 3) := by decide +kernel
theorem dX5_keeper_4 : decode cX5_keeper 4 = .ok (.iload_n 1, 1) := by decide +kernel
theorem dX5_keeper_5 : decode cX5_keeper 5 = .ok (.invokevirtual 80, 3) := by decide +kernel
theorem dX5_keeper_8 : decode cX5_keeper 8 = .ok (.ifCond .ne 6, 3) := by decide +kernel
theorem dX5_keeper_11 : decode cX5_keeper 11 = .ok (.bipush (-101), 2) := by decide +kernel
theorem dX5_keeper_13 : decode cX5_keeper 13 = .ok (.ireturn, 1) := by decide +kernel
theorem dX5_keeper_14 : decode cX5_keeper 14 = .ok (.iload_n 2, 1) := by decide +kernel
theorem dX5_keeper_15 : decode cX5_keeper 15 = .ok (.tableswitch 101 0 6 #[41, 51, 61, 70, 79, 89, 95], 41) := by decide +kernel
theorem dX5_keeper_56 : decode cX5_keeper 56 = .ok (.aload_n 0, 1) := by decide +kernel
theorem dX5_keeper_57 : decode cX5_keeper 57 = .ok (.getfield 19, 3) := by decide +kernel
theorem dX5_keeper_60 : decode cX5_keeper 60 = .ok (.getfield 84, 3) := by decide +kernel
theorem dX5_keeper_63 : decode cX5_keeper 63 = .ok (.iload_n 1, 1) := by decide +kernel
theorem dX5_keeper_64 : decode cX5_keeper 64 = .ok (.iaload, 1) := by decide +kernel
theorem dX5_keeper_65 : decode cX5_keeper 65 = .ok (.ireturn, 1) := by decide +kernel
theorem dX5_keeper_66 : decode cX5_keeper 66 = .ok (.aload_n 0, 1) := by decide +kernel
theorem dX5_keeper_67 : decode cX5_keeper 67 = .ok (.getfield 19, 3) := by decide +kernel
theorem dX5_keeper_70 : decode cX5_keeper 70 = .ok (.getfield 87, 3) := by decide +kernel
theorem dX5_keeper_73 : decode cX5_keeper 73 = .ok (.iload_n 1, 1) := by decide +kernel
theorem dX5_keeper_74 : decode cX5_keeper 74 = .ok (.iaload, 1) := by decide +kernel
theorem dX5_keeper_75 : decode cX5_keeper 75 = .ok (.ireturn, 1) := by decide +kernel
theorem dX5_keeper_76 : decode cX5_keeper 76 = .ok (.aload_n 0, 1) := by decide +kernel
theorem dX5_keeper_77 : decode cX5_keeper 77 = .ok (.getfield 26, 3) := by decide +kernel
theorem dX5_keeper_80 : decode cX5_keeper 80 = .ok (.iload_n 1, 1) := by decide +kernel
theorem dX5_keeper_81 : decode cX5_keeper 81 = .ok (.invokevirtual 90, 3) := by decide +kernel
theorem dX5_keeper_84 : decode cX5_keeper 84 = .ok (.ireturn, 1) := by decide +kernel
theorem dX5_keeper_85 : decode cX5_keeper 85 = .ok (.aload_n 0, 1) := by decide +kernel
theorem dX5_keeper_86 : decode cX5_keeper 86 = .ok (.getfield 26, 3) := by decide +kernel
theorem dX5_keeper_89 : decode cX5_keeper 89 = .ok (.iload_n 1, 1) := by decide +kernel
theorem dX5_keeper_90 : decode cX5_keeper 90 = .ok (.invokevirtual 94, 3) := by decide +kernel
theorem dX5_keeper_93 : decode cX5_keeper 93 = .ok (.ireturn, 1) := by decide +kernel
theorem dX5_keeper_94 : decode cX5_keeper 94 = .ok (.aload_n 0, 1) := by decide +kernel
theorem dX5_keeper_95 : decode cX5_keeper 95 = .ok (.getfield 26, 3) := by decide +kernel
theorem dX5_keeper_98 : decode cX5_keeper 98 = .ok (.getfield 97, 3) := by decide +kernel
theorem dX5_keeper_101 : decode cX5_keeper 101 = .ok (.iload_n 1, 1) := by decide +kernel
theorem dX5_keeper_102 : decode cX5_keeper 102 = .ok (.iaload, 1) := by decide +kernel
theorem dX5_keeper_103 : decode cX5_keeper 103 = .ok (.ireturn, 1) := by decide +kernel
theorem dX5_keeper_104 : decode cX5_keeper 104 = .ok (.aload_n 0, 1) := by decide +kernel
theorem dX5_keeper_105 : decode cX5_keeper 105 = .ok (.iload_n 1, 1) := by decide +kernel
theorem dX5_keeper_106 : decode cX5_keeper 106 = .ok (.invokevirtual 100, 3) := by decide +kernel
theorem dX5_keeper_109 : decode cX5_keeper 109 = .ok (.ireturn, 1) := by decide +kernel
theorem dX5_keeper_110 : decode cX5_keeper 110 = .ok (.aload_n 0, 1) := by decide +kernel
theorem dX5_keeper_111 : decode cX5_keeper 111 = .ok (.iload_n 1, 1) := by decide +kernel
theorem dX5_keeper_112 : decode cX5_keeper 112 = .ok (.invokevirtual 103, 3) := by decide +kernel
theorem dX5_keeper_115 : decode cX5_keeper 115 = .ok (.ireturn, 1) := by decide +kernel
theorem dX5_keeper_116 : decode cX5_keeper 116 = .ok (.bipush (-102), 2) := by decide +kernel
theorem dX5_keeper_118 : decode cX5_keeper 118 = .ok (.ireturn, 1) := by decide +kernel
set_option maxRecDepth 20000 in
theorem ggX5_as_X2_hasKeeper : GoodIn wsX5_as wsX2_hasKeeper := goodIn_r _ [7, 8, 21, 22, 23, 24, 25] (by decide +kernel) (by decide +kernel)
set_option maxRecDepth 20000 in
theorem gX5_as_X2_hasKeeper : GoodIn wsX5_as (wsV RX5 80 RX2 yX2_hasKeeper wsX2_hasKeeper) := goodIn_app (goodIn_of _ (by decide +kernel)) ggX5_as_X2_hasKeeper
set_option maxRecDepth 20000 in
theorem ggX5_as_X5_isOfKind : GoodIn wsX5_as wsX5_isOfKind := goodIn_r _ [12] (by decide +kernel) (by decide +kernel)
set_option maxRecDepth 20000 in
theorem gX5_as_X5_isOfKind : GoodIn wsX5_as (va_wsS RX5 106 yX5_isOfKind wsX5_isOfKind) := goodIn_app (goodIn_of _ (by decide +kernel)) ggX5_as_X5_isOfKind
theorem dX5_as_0 : decode cX5_as 0 = .ok (.aload_n 0, 1) := by decide +kernel
theorem dX5_as_1 : decode cX5_as 1 = .ok (.getfield 19, 3) := by decide +kernel
theorem dX5_as_4 : decode cX5_as 4 = .ok (.iload_n 1, 1) := by decide +kernel
theorem dX5_as_5 : decode cX5_as 5 = .ok (.invokevirtual 80, 3) := by decide +kernel
theorem dX5_as_8 : decode cX5_as 8 = .ok (.ifCond .ne 6, 3) := by decide +kernel
theorem dX5_as_11 : decode cX5_as 11 = .ok (.bipush (-101), 2) := by decide +kernel
theorem dX5_as_13 : decode cX5_as 13 = .ok (.ireturn, 1) := by decide +kernel
theorem dX5_as_14 : decode cX5_as 14 = .ok (.iload_n 2, 1) := by decide +kernel
theorem dX5_as_15 : decode cX5_as 15 = .ok (.ifCond .lt 8, 3) := by decide +kernel
theorem dX5_as_18 : decode cX5_as 18 = .ok (.iload_n 2, 1) := by decide +kernel
theorem dX5_as_19 : decode cX5_as 19 = .ok (.iconst 4, 1) := by decide +kernel
theorem dX5_as_20 : decode cX5_as 20 = .ok (.if_icmp .le 6, 3) := by decide +kernel
theorem dX5_as_23 : decode cX5_as 23 = .ok (.bipush (-102), 2) := by decide +kernel
theorem dX5_as_25 : decode cX5_as 25 = .ok (.ireturn, 1) := by decide +kernel
theorem dX5_as_26 : decode cX5_as 26 = .ok (.aload_n 0, 1) := by decide +kernel
theorem dX5_as_27 : decode cX5_as 27 = .ok (.getfield 19, 3) := by decide +kernel
theorem dX5_as_30 : decode cX5_as 30 = .ok (.getfield 84, 3) := by decide +kernel
theorem dX5_as_33 : decode cX5_as 33 = .ok (.iload_n 1, 1) := by decide +kernel
theorem dX5_as_34 : decode cX5_as 34 = .ok (.iaload, 1) := by decide +kernel
theorem dX5_as_35 : decode cX5_as 35 = .ok (.iload_n 2, 1) := by decide +kernel
theorem dX5_as_36 : decode cX5_as 36 = .ok (.invokestatic 106, 3) := by decide +kernel
theorem dX5_as_39 : decode cX5_as 39 = .ok (.ifCond .eq 7, 3) := by decide +kernel
theorem dX5_as_42 : decode cX5_as 42 = .ok (.iload_n 1, 1) := by decide +kernel
theorem dX5_as_43 : decode cX5_as 43 = .ok (.goto 4, 3) := by decide +kernel
theorem dX5_as_46 : decode cX5_as 46 = .ok (.iconst (-1), 1) := by decide +kernel
theorem dX5_as_47 : decode cX5_as 47 = .ok (.ireturn, 1) := by decide +kernel
set_option maxRecDepth 20000 in
theorem ggX5_keeps_X2_hasKeeper : GoodIn wsX5_keeps wsX2_hasKeeper := goodIn_r _ [6, 7, 36, 37, 38, 39, 40] (by decide +kernel) (by decide +kernel)
set_option maxRecDepth 20000 in
theorem gX5_keeps_X2_hasKeeper : GoodIn wsX5_keeps (wsV RX5 80 RX2 yX2_hasKeeper wsX2_hasKeeper) := goodIn_app (goodIn_of _ (by decide +kernel)) ggX5_keeps_X2_hasKeeper
set_option maxRecDepth 20000 in
theorem ggX5_keeps_X2_yearsKept : GoodIn wsX5_keeps wsX2_yearsKept := goodIn_r _ [11, 12, 13, 14, 3, 4, 5, 6, 7, 15, 16, 17, 18, 19, 20, 21, 22, 23, 24, 25, 26, 27, 36, 37, 38, 39, 40] (by decide +kernel) (by decide +kernel)
set_option maxRecDepth 20000 in
theorem gX5_keeps_X2_yearsKept : GoodIn wsX5_keeps (wsV RX5 110 RX2 yX2_yearsKept wsX2_yearsKept) := goodIn_app (goodIn_of _ (by decide +kernel)) ggX5_keeps_X2_yearsKept
theorem dX5_keeps_0 : decode cX5_keeps 0 = .ok (.aload_n 0, 1) := by decide +kernel
theorem dX5_keeps_1 : decode cX5_keeps 1 = .ok (.getfield 19, 3) := by decide +kernel
theorem dX5_keeps_4 : decode cX5_keeps 4 = .ok (.iload_n 1, 1) := by decide +kernel
theorem dX5_keeps_5 : decode cX5_keeps 5 = .ok (.invokevirtual 80, 3) := by decide +kernel
theorem dX5_keeps_8 : decode cX5_keeps 8 = .ok (.ifCond .ne 6, 3) := by decide +kernel
theorem dX5_keeps_11 : decode cX5_keeps 11 = .ok (.bipush (-101), 2) := by decide +kernel
theorem dX5_keeps_13 : decode cX5_keeps 13 = .ok (.ireturn, 1) := by decide +kernel
theorem dX5_keeps_14 : decode cX5_keeps 14 = .ok (.iload_n 2, 1) := by decide +kernel
theorem dX5_keeps_15 : decode cX5_keeps 15 = .ok (.ifCond .lt 9, 3) := by decide +kernel
theorem dX5_keeps_18 : decode cX5_keeps 18 = .ok (.iload_n 2, 1) := by decide +kernel
theorem dX5_keeps_19 : decode cX5_keeps 19 = .ok (.bipush 9, 2) := by decide +kernel
theorem dX5_keeps_21 : decode cX5_keeps 21 = .ok (.if_icmp .le 6, 3) := by decide +kernel
theorem dX5_keeps_24 : decode cX5_keeps 24 = .ok (.bipush (-102), 2) := by decide +kernel
theorem dX5_keeps_26 : decode cX5_keeps 26 = .ok (.ireturn, 1) := by decide +kernel
theorem dX5_keeps_27 : decode cX5_keeps 27 = .ok (.aload_n 0, 1) := by decide +kernel
theorem dX5_keeps_28 : decode cX5_keeps 28 = .ok (.getfield 19, 3) := by decide +kernel
theorem dX5_keeps_31 : decode cX5_keeps 31 = .ok (.iload_n 1, 1) := by decide +kernel
theorem dX5_keeps_32 : decode cX5_keeps 32 = .ok (.iload_n 2, 1) := by decide +kernel
theorem dX5_keeps_33 : decode cX5_keeps 33 = .ok (.invokevirtual 110, 3) := by decide +kernel
theorem dX5_keeps_36 : decode cX5_keeps 36 = .ok (.ireturn, 1) := by decide +kernel
set_option maxRecDepth 20000 in
theorem ggX5_hole_X2_hasHole : GoodIn wsX5_hole wsX2_hasHole := goodIn_r _ [11, 12, 45, 46, 47, 48, 49] (by decide +kernel) (by decide +kernel)
set_option maxRecDepth 20000 in
theorem gX5_hole_X2_hasHole : GoodIn wsX5_hole (wsV RX5 114 RX2 yX2_hasHole wsX2_hasHole) := goodIn_app (goodIn_of _ (by decide +kernel)) ggX5_hole_X2_hasHole
set_option maxRecDepth 20000 in
theorem ggX5_hole_X2_yearsKept : GoodIn wsX5_hole wsX2_yearsKept := goodIn_r _ [16, 17, 18, 19, 20, 21, 10, 22, 23, 24, 25, 26, 27, 28, 29, 30, 31, 32, 33, 34, 35, 36, 45, 46, 47, 48, 49] (by decide +kernel) (by decide +kernel)
set_option maxRecDepth 20000 in
theorem gX5_hole_X2_yearsKept : GoodIn wsX5_hole (wsV RX5 110 RX2 yX2_yearsKept wsX2_yearsKept) := goodIn_app (goodIn_of _ (by decide +kernel)) ggX5_hole_X2_yearsKept
theorem dX5_hole_0 : decode cX5_hole 0 = .ok (.aload_n 0, 1) := by decide +kernel
theorem dX5_hole_1 : decode cX5_hole 1 = .ok (.getfield 19, 3) := by decide +kernel
theorem dX5_hole_4 : decode cX5_hole 4 = .ok (.iload_n 1, 1) := by decide +kernel
theorem dX5_hole_5 : decode cX5_hole 5 = .ok (.invokevirtual 114, 3) := by decide +kernel
theorem dX5_hole_8 : decode cX5_hole 8 = .ok (.ifCond .ne 6, 3) := by decide +kernel
theorem dX5_hole_11 : decode cX5_hole 11 = .ok (.bipush (-101), 2) := by decide +kernel
theorem dX5_hole_13 : decode cX5_hole 13 = .ok (.ireturn, 1) := by decide +kernel
theorem dX5_hole_14 : decode cX5_hole 14 = .ok (.iload_n 2, 1) := by decide +kernel
theorem dX5_hole_15 : decode cX5_hole 15 = .ok (.tableswitch 99 0 4 #[33, 43, 53, 63, 73], 33) := by decide +kernel
theorem dX5_hole_48 : decode cX5_hole 48 = .ok (.aload_n 0, 1) := by decide +kernel
theorem dX5_hole_49 : decode cX5_hole 49 = .ok (.getfield 19, 3) := by decide +kernel
theorem dX5_hole_52 : decode cX5_hole 52 = .ok (.getfield 117, 3) := by decide +kernel
theorem dX5_hole_55 : decode cX5_hole 55 = .ok (.iload_n 1, 1) := by decide +kernel
theorem dX5_hole_56 : decode cX5_hole 56 = .ok (.iaload, 1) := by decide +kernel
theorem dX5_hole_57 : decode cX5_hole 57 = .ok (.ireturn, 1) := by decide +kernel
theorem dX5_hole_58 : decode cX5_hole 58 = .ok (.aload_n 0, 1) := by decide +kernel
theorem dX5_hole_59 : decode cX5_hole 59 = .ok (.getfield 26, 3) := by decide +kernel
theorem dX5_hole_62 : decode cX5_hole 62 = .ok (.getfield 120, 3) := by decide +kernel
theorem dX5_hole_65 : decode cX5_hole 65 = .ok (.iload_n 1, 1) := by decide +kernel
theorem dX5_hole_66 : decode cX5_hole 66 = .ok (.iaload, 1) := by decide +kernel
theorem dX5_hole_67 : decode cX5_hole 67 = .ok (.ireturn, 1) := by decide +kernel
theorem dX5_hole_68 : decode cX5_hole 68 = .ok (.aload_n 0, 1) := by decide +kernel
theorem dX5_hole_69 : decode cX5_hole 69 = .ok (.getfield 26, 3) := by decide +kernel
theorem dX5_hole_72 : decode cX5_hole 72 = .ok (.getfield 123, 3) := by decide +kernel
theorem dX5_hole_75 : decode cX5_hole 75 = .ok (.iload_n 1, 1) := by decide +kernel
theorem dX5_hole_76 : decode cX5_hole 76 = .ok (.iaload, 1) := by decide +kernel
theorem dX5_hole_77 : decode cX5_hole 77 = .ok (.ireturn, 1) := by decide +kernel
theorem dX5_hole_78 : decode cX5_hole 78 = .ok (.aload_n 0, 1) := by decide +kernel
theorem dX5_hole_79 : decode cX5_hole 79 = .ok (.getfield 26, 3) := by decide +kernel
theorem dX5_hole_82 : decode cX5_hole 82 = .ok (.getfield 126, 3) := by decide +kernel
theorem dX5_hole_85 : decode cX5_hole 85 = .ok (.iload_n 1, 1) := by decide +kernel
theorem dX5_hole_86 : decode cX5_hole 86 = .ok (.iaload, 1) := by decide +kernel
theorem dX5_hole_87 : decode cX5_hole 87 = .ok (.ireturn, 1) := by decide +kernel
theorem dX5_hole_88 : decode cX5_hole 88 = .ok (.aload_n 0, 1) := by decide +kernel
theorem dX5_hole_89 : decode cX5_hole 89 = .ok (.getfield 19, 3) := by decide +kernel
theorem dX5_hole_92 : decode cX5_hole 92 = .ok (.aload_n 0, 1) := by decide +kernel
theorem dX5_hole_93 : decode cX5_hole 93 = .ok (.getfield 26, 3) := by decide +kernel
theorem dX5_hole_96 : decode cX5_hole 96 = .ok (.getfield 120, 3) := by decide +kernel
theorem dX5_hole_99 : decode cX5_hole 99 = .ok (.iload_n 1, 1) := by decide +kernel
theorem dX5_hole_100 : decode cX5_hole 100 = .ok (.iaload, 1) := by decide +kernel
theorem dX5_hole_101 : decode cX5_hole 101 = .ok (.aload_n 0, 1) := by decide +kernel
theorem dX5_hole_102 : decode cX5_hole 102 = .ok (.getfield 19, 3) := by decide +kernel
theorem dX5_hole_105 : decode cX5_hole 105 = .ok (.getfield 117, 3) := by decide +kernel
theorem dX5_hole_108 : decode cX5_hole 108 = .ok (.iload_n 1, 1) := by decide +kernel
theorem dX5_hole_109 : decode cX5_hole 109 = .ok (.iaload, 1) := by decide +kernel
theorem dX5_hole_110 : decode cX5_hole 110 = .ok (.invokevirtual 110, 3) := by decide +kernel
theorem dX5_hole_113 : decode cX5_hole 113 = .ok (.ireturn, 1) := by decide +kernel
theorem dX5_hole_114 : decode cX5_hole 114 = .ok (.bipush (-102), 2) := by decide +kernel
theorem dX5_hole_116 : decode cX5_hole 116 = .ok (.ireturn, 1) := by decide +kernel
set_option maxRecDepth 20000 in
theorem ggX5_let_X2_hasHole : GoodIn wsX5_let wsX2_hasHole := goodIn_r _ [9, 10, 52, 53, 54, 55, 56] (by decide +kernel) (by decide +kernel)
set_option maxRecDepth 20000 in
theorem gX5_let_X2_hasHole : GoodIn wsX5_let (wsV RX5 114 RX2 yX2_hasHole wsX2_hasHole) := goodIn_app (goodIn_of _ (by decide +kernel)) ggX5_let_X2_hasHole
set_option maxRecDepth 20000 in
theorem ggX5_let_X2_hasKeeper : GoodIn wsX5_let wsX2_hasKeeper := goodIn_r _ [14, 15, 52, 53, 54, 55, 56] (by decide +kernel) (by decide +kernel)
set_option maxRecDepth 20000 in
theorem gX5_let_X2_hasKeeper : GoodIn wsX5_let (wsV RX5 80 RX2 yX2_hasKeeper wsX2_hasKeeper) := goodIn_app (goodIn_of _ (by decide +kernel)) ggX5_let_X2_hasKeeper
set_option maxRecDepth 20000 in
theorem ggX5_let_X0_roomOf : GoodIn wsX5_let wsX0_roomOf := goodIn_r _ [20, 21, 22, 23, 19, 24, 25, 26, 27, 28, 29, 30, 31, 32, 43, 44, 45, 46, 47, 48, 49, 50, 51] (by decide +kernel) (by decide +kernel)
set_option maxRecDepth 20000 in
theorem gX5_let_X0_roomOf : GoodIn wsX5_let (wsV RX5 129 RX0 yX0_roomOf wsX0_roomOf) := goodIn_app (goodIn_of _ (by decide +kernel)) ggX5_let_X0_roomOf
set_option maxRecDepth 20000 in
theorem ggX5_let_X0_holesOf : GoodIn wsX5_let wsX0_holesOf := goodIn_r _ [24, 25, 43, 44, 45, 46, 47, 48, 49, 50, 51] (by decide +kernel) (by decide +kernel)
set_option maxRecDepth 20000 in
theorem gX5_let_X0_holesOf : GoodIn wsX5_let (wsV RX5 90 RX0 yX0_holesOf wsX0_holesOf) := goodIn_app (goodIn_of _ (by decide +kernel)) ggX5_let_X0_holesOf
set_option maxRecDepth 20000 in
theorem ggX5_let_J6_bitCount_0f7a4 : GoodIn wsX5_let wsJ6_bitCount_0f7a4 := goodIn_r _ [29, 30, 31, 32] (by decide +kernel) (by decide +kernel)
set_option maxRecDepth 20000 in
theorem gX5_let_J6_bitCount_0f7a4 : GoodIn wsX5_let (va_wsS RX5 132 yJ6_bitCount_0f7a4 wsJ6_bitCount_0f7a4) := goodIn_app (goodIn_of _ (by decide +kernel)) ggX5_let_J6_bitCount_0f7a4
theorem dX5_let_0 : decode cX5_let 0 = .ok (.aload_n 0, 1) := by decide +kernel
theorem dX5_let_1 : decode cX5_let 1 = .ok (.getfield 19, 3) := by decide +kernel
theorem dX5_let_4 : decode cX5_let 4 = .ok (.iload_n 1, 1) := by decide +kernel
theorem dX5_let_5 : decode cX5_let 5 = .ok (.invokevirtual 114, 3) := by decide +kernel
theorem dX5_let_8 : decode cX5_let 8 = .ok (.ifCond .eq 14, 3) := by decide +kernel
theorem dX5_let_11 : decode cX5_let 11 = .ok (.aload_n 0, 1) := by decide +kernel
theorem dX5_let_12 : decode cX5_let 12 = .ok (.getfield 19, 3) := by decide +kernel
theorem dX5_let_15 : decode cX5_let 15 = .ok (.iload_n 2, 1) := by decide +kernel
theorem dX5_let_16 : decode cX5_let 16 = .ok (.invokevirtual 80, 3) := by decide +kernel
theorem dX5_let_19 : decode cX5_let 19 = .ok (.ifCond .ne 6, 3) := by decide +kernel
theorem dX5_let_22 : decode cX5_let 22 = .ok (.bipush (-101), 2) := by decide +kernel
theorem dX5_let_24 : decode cX5_let 24 = .ok (.ireturn, 1) := by decide +kernel
theorem dX5_let_25 : decode cX5_let 25 = .ok (.aload_n 0, 1) := by decide +kernel
theorem dX5_let_26 : decode cX5_let 26 = .ok (.getfield 26, 3) := by decide +kernel
theorem dX5_let_29 : decode cX5_let 29 = .ok (.getfield 123, 3) := by decide +kernel
theorem dX5_let_32 : decode cX5_let 32 = .ok (.iload_n 1, 1) := by decide +kernel
theorem dX5_let_33 : decode cX5_let 33 = .ok (.iaload, 1) := by decide +kernel
theorem dX5_let_34 : decode cX5_let 34 = .ok (.ifCond .ne 14, 3) := by decide +kernel
theorem dX5_let_37 : decode cX5_let 37 = .ok (.aload_n 0, 1) := by decide +kernel
theorem dX5_let_38 : decode cX5_let 38 = .ok (.getfield 26, 3) := by decide +kernel
theorem dX5_let_41 : decode cX5_let 41 = .ok (.iload_n 2, 1) := by decide +kernel
theorem dX5_let_42 : decode cX5_let 42 = .ok (.invokevirtual 129, 3) := by decide +kernel
theorem dX5_let_45 : decode cX5_let 45 = .ok (.ifCond .gt 6, 3) := by decide +kernel
theorem dX5_let_48 : decode cX5_let 48 = .ok (.bipush (-103), 2) := by decide +kernel
theorem dX5_let_50 : decode cX5_let 50 = .ok (.ireturn, 1) := by decide +kernel
theorem dX5_let_51 : decode cX5_let 51 = .ok (.aload_n 0, 1) := by decide +kernel
theorem dX5_let_52 : decode cX5_let 52 = .ok (.getfield 26, 3) := by decide +kernel
theorem dX5_let_55 : decode cX5_let 55 = .ok (.getfield 120, 3) := by decide +kernel
theorem dX5_let_58 : decode cX5_let 58 = .ok (.iload_n 1, 1) := by decide +kernel
theorem dX5_let_59 : decode cX5_let 59 = .ok (.iload_n 2, 1) := by decide +kernel
theorem dX5_let_60 : decode cX5_let 60 = .ok (.iastore, 1) := by decide +kernel
theorem dX5_let_61 : decode cX5_let 61 = .ok (.aload_n 0, 1) := by decide +kernel
theorem dX5_let_62 : decode cX5_let 62 = .ok (.getfield 26, 3) := by decide +kernel
theorem dX5_let_65 : decode cX5_let 65 = .ok (.getfield 123, 3) := by decide +kernel
theorem dX5_let_68 : decode cX5_let 68 = .ok (.iload_n 1, 1) := by decide +kernel
theorem dX5_let_69 : decode cX5_let 69 = .ok (.iconst 1, 1) := by decide +kernel
theorem dX5_let_70 : decode cX5_let 70 = .ok (.iastore, 1) := by decide +kernel
theorem dX5_let_71 : decode cX5_let 71 = .ok (.aload_n 0, 1) := by decide +kernel
theorem dX5_let_72 : decode cX5_let 72 = .ok (.getfield 26, 3) := by decide +kernel
theorem dX5_let_75 : decode cX5_let 75 = .ok (.iload_n 2, 1) := by decide +kernel
theorem dX5_let_76 : decode cX5_let 76 = .ok (.invokevirtual 90, 3) := by decide +kernel
theorem dX5_let_79 : decode cX5_let 79 = .ok (.invokestatic 132, 3) := by decide +kernel
theorem dX5_let_82 : decode cX5_let 82 = .ok (.ireturn, 1) := by decide +kernel
set_option maxRecDepth 20000 in
theorem ggX5_leave_X2_hasHole : GoodIn wsX5_leave wsX2_hasHole := goodIn_r _ [9, 10, 36, 37, 38, 39, 40] (by decide +kernel) (by decide +kernel)
set_option maxRecDepth 20000 in
theorem gX5_leave_X2_hasHole : GoodIn wsX5_leave (wsV RX5 114 RX2 yX2_hasHole wsX2_hasHole) := goodIn_app (goodIn_of _ (by decide +kernel)) ggX5_leave_X2_hasHole
set_option maxRecDepth 20000 in
theorem ggX5_leave_X0_empty : GoodIn wsX5_leave wsX0_empty := goodIn_r _ [15, 16, 17, 18, 27, 28, 29, 30, 31, 32, 33, 34, 35] (by decide +kernel) (by decide +kernel)
set_option maxRecDepth 20000 in
theorem gX5_leave_X0_empty : GoodIn wsX5_leave (wsV RX5 137 RX0 yX0_empty wsX0_empty) := goodIn_app (goodIn_of _ (by decide +kernel)) ggX5_leave_X0_empty
theorem dX5_leave_0 : decode cX5_leave 0 = .ok (.aload_n 0, 1) := by decide +kernel
theorem dX5_leave_1 : decode cX5_leave 1 = .ok (.getfield 19, 3) := by decide +kernel
theorem dX5_leave_4 : decode cX5_leave 4 = .ok (.iload_n 1, 1) := by decide +kernel
theorem dX5_leave_5 : decode cX5_leave 5 = .ok (.invokevirtual 114, 3) := by decide +kernel
theorem dX5_leave_8 : decode cX5_leave 8 = .ok (.ifCond .ne 6, 3) := by decide +kernel
theorem dX5_leave_11 : decode cX5_leave 11 = .ok (.bipush (-101), 2) := by decide +kernel
theorem dX5_leave_13 : decode cX5_leave 13 = .ok (.ireturn, 1) := by decide +kernel
theorem dX5_leave_14 : decode cX5_leave 14 = .ok (.aload_n 0, 1) := by decide +kernel
theorem dX5_leave_15 : decode cX5_leave 15 = .ok (.getfield 26, 3) := by decide +kernel
theorem dX5_leave_18 : decode cX5_leave 18 = .ok (.getfield 123, 3) := by decide +kernel
theorem dX5_leave_21 : decode cX5_leave 21 = .ok (.iload_n 1, 1) := by decide +kernel
theorem dX5_leave_22 : decode cX5_leave 22 = .ok (.iaload, 1) := by decide +kernel
theorem dX5_leave_23 : decode cX5_leave 23 = .ok (.iconst 1, 1) := by decide +kernel
theorem dX5_leave_24 : decode cX5_leave 24 = .ok (.if_icmp .eq 6, 3) := by decide +kernel
theorem dX5_leave_27 : decode cX5_leave 27 = .ok (.bipush (-103), 2) := by decide +kernel
theorem dX5_leave_29 : decode cX5_leave 29 = .ok (.ireturn, 1) := by decide +kernel
theorem dX5_leave_30 : decode cX5_leave 30 = .ok (.aload_n 0, 1) := by decide +kernel
theorem dX5_leave_31 : decode cX5_leave 31 = .ok (.getfield 26, 3) := by decide +kernel
theorem dX5_leave_34 : decode cX5_leave 34 = .ok (.getfield 126, 3) := by decide +kernel
theorem dX5_leave_37 : decode cX5_leave 37 = .ok (.iload_n 1, 1) := by decide +kernel
theorem dX5_leave_38 : decode cX5_leave 38 = .ok (.iaload, 1) := by decide +kernel
theorem dX5_leave_39 : decode cX5_leave 39 = .ok (.istore_n 2, 1) := by decide +kernel
theorem dX5_leave_40 : decode cX5_leave 40 = .ok (.aload_n 0, 1) := by decide +kernel
theorem dX5_leave_41 : decode cX5_leave 41 = .ok (.getfield 26, 3) := by decide +kernel
theorem dX5_leave_44 : decode cX5_leave 44 = .ok (.iload_n 1, 1) := by decide +kernel
theorem dX5_leave_45 : decode cX5_leave 45 = .ok (.iconst 0, 1) := by decide +kernel
theorem dX5_leave_46 : decode cX5_leave 46 = .ok (.invokevirtual 137, 3) := by decide +kernel
theorem dX5_leave_49 : decode cX5_leave 49 = .ok (.iload_n 2, 1) := by decide +kernel
theorem dX5_leave_50 : decode cX5_leave 50 = .ok (.ireturn, 1) := by decide +kernel
set_option maxRecDepth 20000 in
theorem ggX5_year_X2_stands : GoodIn wsX5_year wsX2_stands := goodIn_r _ [12, 13, 43, 44, 45, 46, 47] (by decide +kernel) (by decide +kernel)
set_option maxRecDepth 20000 in
theorem gX5_year_X2_stands : GoodIn wsX5_year (wsV RX5 141 RX2 yX2_stands wsX2_stands) := goodIn_app (goodIn_of _ (by decide +kernel)) ggX5_year_X2_stands
set_option maxRecDepth 20000 in
theorem ggX5_year_X2_hasKeeper : GoodIn wsX5_year wsX2_hasKeeper := goodIn_r _ [17, 13, 43, 44, 45, 46, 47] (by decide +kernel) (by decide +kernel)
set_option maxRecDepth 20000 in
theorem gX5_year_X2_hasKeeper : GoodIn wsX5_year (wsV RX5 80 RX2 yX2_hasKeeper wsX2_hasKeeper) := goodIn_app (goodIn_of _ (by decide +kernel)) ggX5_year_X2_hasKeeper
set_option maxRecDepth 20000 in
theorem ggX5_year_X2_eggsOfAYear : GoodIn wsX5_year wsX2_eggsOfAYear := goodIn_r _ [21, 22, 23, 15, 16, 11, 17, 13, 24, 25, 26, 43, 44, 45, 46, 47] (by decide +kernel) (by decide +kernel)
set_option maxRecDepth 20000 in
theorem gX5_year_X2_eggsOfAYear : GoodIn wsX5_year (wsV RX5 147 RX2 yX2_eggsOfAYear wsX2_eggsOfAYear) := goodIn_app (goodIn_of _ (by decide +kernel)) ggX5_year_X2_eggsOfAYear
set_option maxRecDepth 20000 in
theorem ggX5_year_X0_empty : GoodIn wsX5_year wsX0_empty := goodIn_r _ [31, 32, 33, 34, 48, 49, 50, 51, 52, 53, 54, 55, 56] (by decide +kernel) (by decide +kernel)
set_option maxRecDepth 20000 in
theorem gX5_year_X0_empty : GoodIn wsX5_year (wsV RX5 137 RX0 yX0_empty wsX0_empty) := goodIn_app (goodIn_of _ (by decide +kernel)) ggX5_year_X0_empty
theorem dX5_year_0 : decode cX5_year 0 = .ok (.iload_n 1, 1) := by decide +kernel
theorem dX5_year_1 : decode cX5_year 1 = .ok (.ifCond .lt 16, 3) := by decide +kernel
theorem dX5_year_4 : decode cX5_year 4 = .ok (.iload_n 1, 1) := by decide +kernel
theorem dX5_year_5 : decode cX5_year 5 = .ok (.iconst 1, 1) := by decide +kernel
theorem dX5_year_6 : decode cX5_year 6 = .ok (.aload_n 0, 1) := by decide +kernel
theorem dX5_year_7 : decode cX5_year 7 = .ok (.getfield 19, 3) := by decide +kernel
theorem dX5_year_10 : decode cX5_year 10 = .ok (.getfield 77, 3) := by decide +kernel
theorem dX5_year_13 : decode cX5_year 13 = .ok (.ishl, 1) := by decide +kernel
theorem dX5_year_14 : decode cX5_year 14 = .ok (.if_icmp .lt 6, 3) := by decide +kernel
theorem dX5_year_17 : decode cX5_year 17 = .ok (.bipush (-102), 2) := by decide +kernel
theorem dX5_year_19 : decode cX5_year 19 = .ok (.ireturn, 1) := by decide +kernel
theorem dX5_year_20 : decode cX5_year 20 = .ok (.aload_n 0, 1) := by decide +kernel
theorem dX5_year_21 : decode cX5_year 21 = .ok (.getfield 19, 3) := by decide +kernel
theorem dX5_year_24 : decode cX5_year 24 = .ok (.invokevirtual 141, 3) := by decide +kernel
theorem dX5_year_27 : decode cX5_year 27 = .ok (.ifCond .ne 6, 3) := by decide +kernel
theorem dX5_year_30 : decode cX5_year 30 = .ok (.bipush (-103), 2) := by decide +kernel
theorem dX5_year_32 : decode cX5_year 32 = .ok (.ireturn, 1) := by decide +kernel
theorem dX5_year_33 : decode cX5_year 33 = .ok (.aload_n 0, 1) := by decide +kernel
theorem dX5_year_34 : decode cX5_year 34 = .ok (.getfield 26, 3) := by decide +kernel
theorem dX5_year_37 : decode cX5_year 37 = .ok (.getfield 144, 3) := by decide +kernel
theorem dX5_year_40 : decode cX5_year 40 = .ok (.bipush 99, 2) := by decide +kernel
theorem dX5_year_42 : decode cX5_year 42 = .ok (.if_icmp .lt 6, 3) := by decide +kernel
theorem dX5_year_45 : decode cX5_year 45 = .ok (.bipush (-104), 2) := by decide +kernel
theorem dX5_year_47 : decode cX5_year 47 = .ok (.ireturn, 1) := by decide +kernel
theorem dX5_year_48 : decode cX5_year 48 = .ok (.aload_n 0, 1) := by decide +kernel
theorem dX5_year_49 : decode cX5_year 49 = .ok (.getfield 26, 3) := by decide +kernel
theorem dX5_year_52 : decode cX5_year 52 = .ok (.dup, 1) := by decide +kernel
theorem dX5_year_53 : decode cX5_year 53 = .ok (.getfield 144, 3) := by decide +kernel
theorem dX5_year_56 : decode cX5_year 56 = .ok (.iconst 1, 1) := by decide +kernel
theorem dX5_year_57 : decode cX5_year 57 = .ok (.iadd, 1) := by decide +kernel
theorem dX5_year_58 : decode cX5_year 58 = .ok (.putfield 144, 3) := by decide +kernel
theorem dX5_year_61 : decode cX5_year 61 = .ok (.iconst 0, 1) := by decide +kernel
theorem dX5_year_62 : decode cX5_year 62 = .ok (.istore_n 2, 1) := by decide +kernel
theorem dX5_year_63 : decode cX5_year 63 = .ok (.iconst 0, 1) := by decide +kernel
theorem dX5_year_64 : decode cX5_year 64 = .ok (.istore_n 3, 1) := by decide +kernel
theorem dX5_year_65 : decode cX5_year 65 = .ok (.iload_n 3, 1) := by decide +kernel
theorem dX5_year_66 : decode cX5_year 66 = .ok (.aload_n 0, 1) := by decide +kernel
theorem dX5_year_67 : decode cX5_year 67 = .ok (.getfield 19, 3) := by decide +kernel
theorem dX5_year_70 : decode cX5_year 70 = .ok (.getfield 77, 3) := by decide +kernel
theorem dX5_year_73 : decode cX5_year 73 = .ok (.if_icmp .ge 94, 3) := by decide +kernel
theorem dX5_year_76 : decode cX5_year 76 = .ok (.aload_n 0, 1) := by decide +kernel
theorem dX5_year_77 : decode cX5_year 77 = .ok (.getfield 26, 3) := by decide +kernel
theorem dX5_year_80 : decode cX5_year 80 = .ok (.getfield 120, 3) := by decide +kernel
theorem dX5_year_83 : decode cX5_year 83 = .ok (.iload_n 3, 1) := by decide +kernel
theorem dX5_year_84 : decode cX5_year 84 = .ok (.iaload, 1) := by decide +kernel
theorem dX5_year_85 : decode cX5_year 85 = .ok (.istore 4, 2) := by decide +kernel
theorem dX5_year_87 : decode cX5_year 87 = .ok (.aload_n 0, 1) := by decide +kernel
theorem dX5_year_88 : decode cX5_year 88 = .ok (.getfield 19, 3) := by decide +kernel
theorem dX5_year_91 : decode cX5_year 91 = .ok (.iload 4, 2) := by decide +kernel
theorem dX5_year_93 : decode cX5_year 93 = .ok (.invokevirtual 80, 3) := by decide +kernel
theorem dX5_year_96 : decode cX5_year 96 = .ok (.ifCond .ne 6, 3) := by decide +kernel
theorem dX5_year_99 : decode cX5_year 99 = .ok (.goto 62, 3) := by decide +kernel
theorem dX5_year_102 : decode cX5_year 102 = .ok (.iload_n 1, 1) := by decide +kernel
theorem dX5_year_103 : decode cX5_year 103 = .ok (.iload_n 3, 1) := by decide +kernel
theorem dX5_year_104 : decode cX5_year 104 = .ok (.ishr, 1) := by decide +kernel
theorem dX5_year_105 : decode cX5_year 105 = .ok (.iconst 1, 1) := by decide +kernel
theorem dX5_year_106 : decode cX5_year 106 = .ok (.iand, 1) := by decide +kernel
theorem dX5_year_107 : decode cX5_year 107 = .ok (.iconst 1, 1) := by decide +kernel
theorem dX5_year_108 : decode cX5_year 108 = .ok (.if_icmp .ne 30, 3) := by decide +kernel
theorem dX5_year_111 : decode cX5_year 111 = .ok (.iinc 2 1, 3) := by decide +kernel
theorem dX5_year_114 : decode cX5_year 114 = .ok (.aload_n 0, 1) := by decide +kernel
theorem dX5_year_115 : decode cX5_year 115 = .ok (.getfield 26, 3) := by decide +kernel
theorem dX5_year_118 : decode cX5_year 118 = .ok (.getfield 126, 3) := by decide +kernel
theorem dX5_year_121 : decode cX5_year 121 = .ok (.iload_n 3, 1) := by decide +kernel
theorem dX5_year_122 : decode cX5_year 122 = .ok (.dup2, 1) := by decide +kernel
theorem dX5_year_123 : decode cX5_year 123 = .ok (.iaload, 1) := by decide +kernel
theorem dX5_year_124 : decode cX5_year 124 = .ok (.aload_n 0, 1) := by decide +kernel
theorem dX5_year_125 : decode cX5_year 125 = .ok (.getfield 19, 3) := by decide +kernel
theorem dX5_year_128 : decode cX5_year 128 = .ok (.iload 4, 2) := by decide +kernel
theorem dX5_year_130 : decode cX5_year 130 = .ok (.invokevirtual 147, 3) := by decide +kernel
theorem dX5_year_133 : decode cX5_year 133 = .ok (.iadd, 1) := by decide +kernel
theorem dX5_year_134 : decode cX5_year 134 = .ok (.iastore, 1) := by decide +kernel
theorem dX5_year_135 : decode cX5_year 135 = .ok (.goto 26, 3) := by decide +kernel
theorem dX5_year_138 : decode cX5_year 138 = .ok (.aload_n 0, 1) := by decide +kernel
theorem dX5_year_139 : decode cX5_year 139 = .ok (.getfield 26, 3) := by decide +kernel
theorem dX5_year_142 : decode cX5_year 142 = .ok (.getfield 97, 3) := by decide +kernel
theorem dX5_year_145 : decode cX5_year 145 = .ok (.iload 4, 2) := by decide +kernel
theorem dX5_year_147 : decode cX5_year 147 = .ok (.dup2, 1) := by decide +kernel
theorem dX5_year_148 : decode cX5_year 148 = .ok (.iaload, 1) := by decide +kernel
theorem dX5_year_149 : decode cX5_year 149 = .ok (.iconst 1, 1) := by decide +kernel
theorem dX5_year_150 : decode cX5_year 150 = .ok (.iadd, 1) := by decide +kernel
theorem dX5_year_151 : decode cX5_year 151 = .ok (.iastore, 1) := by decide +kernel
theorem dX5_year_152 : decode cX5_year 152 = .ok (.aload_n 0, 1) := by decide +kernel
theorem dX5_year_153 : decode cX5_year 153 = .ok (.getfield 26, 3) := by decide +kernel
theorem dX5_year_156 : decode cX5_year 156 = .ok (.iload_n 3, 1) := by decide +kernel
theorem dX5_year_157 : decode cX5_year 157 = .ok (.iconst 2, 1) := by decide +kernel
theorem dX5_year_158 : decode cX5_year 158 = .ok (.invokevirtual 137, 3) := by decide +kernel
theorem dX5_year_161 : decode cX5_year 161 = .ok (.iinc 3 1, 3) := by decide +kernel
theorem dX5_year_164 : decode cX5_year 164 = .ok (.goto (-99), 3) := by decide +kernel
theorem dX5_year_167 : decode cX5_year 167 = .ok (.iload_n 2, 1) := by decide +kernel
theorem dX5_year_168 : decode cX5_year 168 = .ok (.ireturn, 1) := by decide +kernel
set_option maxRecDepth 20000 in
theorem ggX5_forgive_X0_empty : GoodIn wsX5_forgive wsX0_empty := goodIn_r _ [9, 10, 11, 12, 26, 27, 28, 29, 30, 31, 32, 33, 34] (by decide +kernel) (by decide +kernel)
set_option maxRecDepth 20000 in
theorem gX5_forgive_X0_empty : GoodIn wsX5_forgive (wsV RX5 137 RX0 yX0_empty wsX0_empty) := goodIn_app (goodIn_of _ (by decide +kernel)) ggX5_forgive_X0_empty
theorem dX5_forgive_0 : decode cX5_forgive 0 = .ok (.iconst 0, 1) := by decide +kernel
theorem dX5_forgive_1 : decode cX5_forgive 1 = .ok (.istore_n 1, 1) := by decide +kernel
theorem dX5_forgive_2 : decode cX5_forgive 2 = .ok (.iconst 0, 1) := by decide +kernel
theorem dX5_forgive_3 : decode cX5_forgive 3 = .ok (.istore_n 2, 1) := by decide +kernel
theorem dX5_forgive_4 : decode cX5_forgive 4 = .ok (.iload_n 2, 1) := by decide +kernel
theorem dX5_forgive_5 : decode cX5_forgive 5 = .ok (.aload_n 0, 1) := by decide +kernel
theorem dX5_forgive_6 : decode cX5_forgive 6 = .ok (.getfield 19, 3) := by decide +kernel
theorem dX5_forgive_9 : decode cX5_forgive 9 = .ok (.getfield 77, 3) := by decide +kernel
theorem dX5_forgive_12 : decode cX5_forgive 12 = .ok (.if_icmp .ge 34, 3) := by decide +kernel
theorem dX5_forgive_15 : decode cX5_forgive 15 = .ok (.aload_n 0, 1) := by decide +kernel
theorem dX5_forgive_16 : decode cX5_forgive 16 = .ok (.getfield 26, 3) := by decide +kernel
theorem dX5_forgive_19 : decode cX5_forgive 19 = .ok (.getfield 123, 3) := by decide +kernel
theorem dX5_forgive_22 : decode cX5_forgive 22 = .ok (.iload_n 2, 1) := by decide +kernel
theorem dX5_forgive_23 : decode cX5_forgive 23 = .ok (.iaload, 1) := by decide +kernel
theorem dX5_forgive_24 : decode cX5_forgive 24 = .ok (.iconst 2, 1) := by decide +kernel
theorem dX5_forgive_25 : decode cX5_forgive 25 = .ok (.if_icmp .ne 15, 3) := by decide +kernel
theorem dX5_forgive_28 : decode cX5_forgive 28 = .ok (.aload_n 0, 1) := by decide +kernel
theorem dX5_forgive_29 : decode cX5_forgive 29 = .ok (.getfield 26, 3) := by decide +kernel
theorem dX5_forgive_32 : decode cX5_forgive 32 = .ok (.iload_n 2, 1) := by decide +kernel
theorem dX5_forgive_33 : decode cX5_forgive 33 = .ok (.iconst 0, 1) := by decide +kernel
theorem dX5_forgive_34 : decode cX5_forgive 34 = .ok (.invokevirtual 137, 3) := by decide +kernel
theorem dX5_forgive_37 : decode cX5_forgive 37 = .ok (.iinc 1 1, 3) := by decide +kernel
end
section
theorem dX5_forgive_40 : decode cX5_forgive 40 = .ok (.iinc 2 1, 3) := by decide +kernel
theorem dX5_forgive_43 : decode cX5_forgive 43 = .ok (.goto (-39), 3) := by decide +kernel
theorem dX5_forgive_46 : decode cX5_forgive 46 = .ok (.iload_n 1, 1) := by decide +kernel
theorem dX5_forgive_47 : decode cX5_forgive 47 = .ok (.ireturn, 1) := by decide +kernel
set_option maxRecDepth 20000 in
theorem ggX5_odds_X2_stands : GoodIn wsX5_odds wsX2_stands := goodIn_r _ [14, 15, 50, 51, 52, 53, 54] (by decide +kernel) (by decide +kernel)
set_option maxRecDepth 20000 in
theorem gX5_odds_X2_stands : GoodIn wsX5_odds (wsV RX5 141 RX2 yX2_stands wsX2_stands) := goodIn_app (goodIn_of _ (by decide +kernel)) ggX5_odds_X2_stands
set_option maxRecDepth 20000 in
theorem ggX5_odds_X2_yearsKept : GoodIn wsX5_odds wsX2_yearsKept := goodIn_r _ [19, 20, 21, 22, 23, 24, 13, 25, 15, 26, 27, 28, 29, 30, 31, 32, 33, 34, 35, 36, 37, 38, 50, 51, 52, 53, 54] (by decide +kernel) (by decide +kernel)
set_option maxRecDepth 20000 in
theorem gX5_odds_X2_yearsKept : GoodIn wsX5_odds (wsV RX5 110 RX2 yX2_yearsKept wsX2_yearsKept) := goodIn_app (goodIn_of _ (by decide +kernel)) ggX5_odds_X2_yearsKept
set_option maxRecDepth 20000 in
theorem ggX5_odds_X5_greatestDivisor : GoodIn wsX5_odds wsX5_greatestDivisor := goodIn_r _ [41] (by decide +kernel) (by decide +kernel)
set_option maxRecDepth 20000 in
theorem gX5_odds_X5_greatestDivisor : GoodIn wsX5_odds (va_wsS RX5 156 yX5_greatestDivisor wsX5_greatestDivisor) := goodIn_app (goodIn_of _ (by decide +kernel)) ggX5_odds_X5_greatestDivisor
theorem dX5_odds_0 : decode cX5_odds 0 = .ok (.iload_n 1, 1) := by decide +kernel
theorem dX5_odds_1 : decode cX5_odds 1 = .ok (.iconst 1, 1) := by decide +kernel
theorem dX5_odds_2 : decode cX5_odds 2 = .ok (.if_icmp .lt 17, 3) := by decide +kernel
theorem dX5_odds_5 : decode cX5_odds 5 = .ok (.iload_n 1, 1) := by decide +kernel
theorem dX5_odds_6 : decode cX5_odds 6 = .ok (.iconst 2, 1) := by decide +kernel
theorem dX5_odds_7 : decode cX5_odds 7 = .ok (.if_icmp .gt 12, 3) := by decide +kernel
theorem dX5_odds_10 : decode cX5_odds 10 = .ok (.iload_n 2, 1) := by decide +kernel
theorem dX5_odds_11 : decode cX5_odds 11 = .ok (.ifCond .lt 8, 3) := by decide +kernel
theorem dX5_odds_14 : decode cX5_odds 14 = .ok (.iload_n 2, 1) := by decide +kernel
theorem dX5_odds_15 : decode cX5_odds 15 = .ok (.iconst 1, 1) := by decide +kernel
theorem dX5_odds_16 : decode cX5_odds 16 = .ok (.if_icmp .le 7, 3) := by decide +kernel
theorem dX5_odds_19 : decode cX5_odds 19 = .ok (.ldc2_w 150, 3) := by decide +kernel
theorem dX5_odds_22 : decode cX5_odds 22 = .ok (.lreturn, 1) := by decide +kernel
theorem dX5_odds_23 : decode cX5_odds 23 = .ok (.aload_n 0, 1) := by decide +kernel
theorem dX5_odds_24 : decode cX5_odds 24 = .ok (.getfield 19, 3) := by decide +kernel
theorem dX5_odds_27 : decode cX5_odds 27 = .ok (.invokevirtual 141, 3) := by decide +kernel
theorem dX5_odds_30 : decode cX5_odds 30 = .ok (.ifCond .ne 7, 3) := by decide +kernel
theorem dX5_odds_33 : decode cX5_odds 33 = .ok (.ldc2_w 152, 3) := by decide +kernel
theorem dX5_odds_36 : decode cX5_odds 36 = .ok (.lreturn, 1) := by decide +kernel
theorem dX5_odds_37 : decode cX5_odds 37 = .ok (.lconst 1, 1) := by decide +kernel
theorem dX5_odds_38 : decode cX5_odds 38 = .ok (.lstore_n 3, 1) := by decide +kernel
theorem dX5_odds_39 : decode cX5_odds 39 = .ok (.lconst 1, 1) := by decide +kernel
theorem dX5_odds_40 : decode cX5_odds 40 = .ok (.lstore 5, 2) := by decide +kernel
theorem dX5_odds_42 : decode cX5_odds 42 = .ok (.iconst 0, 1) := by decide +kernel
theorem dX5_odds_43 : decode cX5_odds 43 = .ok (.istore 7, 2) := by decide +kernel
theorem dX5_odds_45 : decode cX5_odds 45 = .ok (.iload 7, 2) := by decide +kernel
theorem dX5_odds_47 : decode cX5_odds 47 = .ok (.aload_n 0, 1) := by decide +kernel
theorem dX5_odds_48 : decode cX5_odds 48 = .ok (.getfield 19, 3) := by decide +kernel
theorem dX5_odds_51 : decode cX5_odds 51 = .ok (.getfield 77, 3) := by decide +kernel
theorem dX5_odds_54 : decode cX5_odds 54 = .ok (.if_icmp .ge 62, 3) := by decide +kernel
theorem dX5_odds_57 : decode cX5_odds 57 = .ok (.aload_n 0, 1) := by decide +kernel
theorem dX5_odds_58 : decode cX5_odds 58 = .ok (.getfield 26, 3) := by decide +kernel
theorem dX5_odds_61 : decode cX5_odds 61 = .ok (.getfield 123, 3) := by decide +kernel
theorem dX5_odds_64 : decode cX5_odds 64 = .ok (.iload 7, 2) := by decide +kernel
theorem dX5_odds_66 : decode cX5_odds 66 = .ok (.iaload, 1) := by decide +kernel
theorem dX5_odds_67 : decode cX5_odds 67 = .ok (.iconst 1, 1) := by decide +kernel
theorem dX5_odds_68 : decode cX5_odds 68 = .ok (.if_icmp .ne 42, 3) := by decide +kernel
theorem dX5_odds_71 : decode cX5_odds 71 = .ok (.lload_n 3, 1) := by decide +kernel
theorem dX5_odds_72 : decode cX5_odds 72 = .ok (.aload_n 0, 1) := by decide +kernel
theorem dX5_odds_73 : decode cX5_odds 73 = .ok (.getfield 19, 3) := by decide +kernel
theorem dX5_odds_76 : decode cX5_odds 76 = .ok (.aload_n 0, 1) := by decide +kernel
theorem dX5_odds_77 : decode cX5_odds 77 = .ok (.getfield 26, 3) := by decide +kernel
theorem dX5_odds_80 : decode cX5_odds 80 = .ok (.getfield 120, 3) := by decide +kernel
theorem dX5_odds_83 : decode cX5_odds 83 = .ok (.iload 7, 2) := by decide +kernel
theorem dX5_odds_85 : decode cX5_odds 85 = .ok (.iaload, 1) := by decide +kernel
theorem dX5_odds_86 : decode cX5_odds 86 = .ok (.aload_n 0, 1) := by decide +kernel
theorem dX5_odds_87 : decode cX5_odds 87 = .ok (.getfield 19, 3) := by decide +kernel
theorem dX5_odds_90 : decode cX5_odds 90 = .ok (.getfield 117, 3) := by decide +kernel
theorem dX5_odds_93 : decode cX5_odds 93 = .ok (.iload 7, 2) := by decide +kernel
theorem dX5_odds_95 : decode cX5_odds 95 = .ok (.iaload, 1) := by decide +kernel
theorem dX5_odds_96 : decode cX5_odds 96 = .ok (.invokevirtual 110, 3) := by decide +kernel
theorem dX5_odds_99 : decode cX5_odds 99 = .ok (.i2l, 1) := by decide +kernel
theorem dX5_odds_100 : decode cX5_odds 100 = .ok (.lmul, 1) := by decide +kernel
theorem dX5_odds_101 : decode cX5_odds 101 = .ok (.lstore_n 3, 1) := by decide +kernel
theorem dX5_odds_102 : decode cX5_odds 102 = .ok (.lload 5, 2) := by decide +kernel
theorem dX5_odds_104 : decode cX5_odds 104 = .ok (.ldc2_w 154, 3) := by decide +kernel
theorem dX5_odds_107 : decode cX5_odds 107 = .ok (.lmul, 1) := by decide +kernel
theorem dX5_odds_108 : decode cX5_odds 108 = .ok (.lstore 5, 2) := by decide +kernel
theorem dX5_odds_110 : decode cX5_odds 110 = .ok (.iinc 7 1, 3) := by decide +kernel
theorem dX5_odds_113 : decode cX5_odds 113 = .ok (.goto (-68), 3) := by decide +kernel
theorem dX5_odds_116 : decode cX5_odds 116 = .ok (.iload_n 2, 1) := by decide +kernel
theorem dX5_odds_117 : decode cX5_odds 117 = .ok (.ifCond .ne 7, 3) := by decide +kernel
theorem dX5_odds_120 : decode cX5_odds 120 = .ok (.lload_n 3, 1) := by decide +kernel
theorem dX5_odds_121 : decode cX5_odds 121 = .ok (.goto 5, 3) := by decide +kernel
theorem dX5_odds_124 : decode cX5_odds 124 = .ok (.lload 5, 2) := by decide +kernel
theorem dX5_odds_126 : decode cX5_odds 126 = .ok (.lstore 7, 2) := by decide +kernel
theorem dX5_odds_128 : decode cX5_odds 128 = .ok (.lload_n 3, 1) := by decide +kernel
theorem dX5_odds_129 : decode cX5_odds 129 = .ok (.lload 5, 2) := by decide +kernel
theorem dX5_odds_131 : decode cX5_odds 131 = .ok (.invokestatic 156, 3) := by decide +kernel
theorem dX5_odds_134 : decode cX5_odds 134 = .ok (.lstore 9, 2) := by decide +kernel
theorem dX5_odds_136 : decode cX5_odds 136 = .ok (.lload 9, 2) := by decide +kernel
theorem dX5_odds_138 : decode cX5_odds 138 = .ok (.lconst 0, 1) := by decide +kernel
theorem dX5_odds_139 : decode cX5_odds 139 = .ok (.lcmp, 1) := by decide +kernel
theorem dX5_odds_140 : decode cX5_odds 140 = .ok (.ifCond .le 11, 3) := by decide +kernel
theorem dX5_odds_143 : decode cX5_odds 143 = .ok (.lload 7, 2) := by decide +kernel
theorem dX5_odds_145 : decode cX5_odds 145 = .ok (.lload 9, 2) := by decide +kernel
theorem dX5_odds_147 : decode cX5_odds 147 = .ok (.ldiv, 1) := by decide +kernel
theorem dX5_odds_148 : decode cX5_odds 148 = .ok (.goto 5, 3) := by decide +kernel
theorem dX5_odds_151 : decode cX5_odds 151 = .ok (.lload 7, 2) := by decide +kernel
theorem dX5_odds_153 : decode cX5_odds 153 = .ok (.lstore 11, 2) := by decide +kernel
theorem dX5_odds_155 : decode cX5_odds 155 = .ok (.iload_n 1, 1) := by decide +kernel
theorem dX5_odds_156 : decode cX5_odds 156 = .ok (.iconst 1, 1) := by decide +kernel
theorem dX5_odds_157 : decode cX5_odds 157 = .ok (.if_icmp .ne 8, 3) := by decide +kernel
theorem dX5_odds_160 : decode cX5_odds 160 = .ok (.lload 11, 2) := by decide +kernel
theorem dX5_odds_162 : decode cX5_odds 162 = .ok (.goto 8, 3) := by decide +kernel
theorem dX5_odds_165 : decode cX5_odds 165 = .ok (.lload 11, 2) := by decide +kernel
theorem dX5_odds_167 : decode cX5_odds 167 = .ok (.lload 11, 2) := by decide +kernel
theorem dX5_odds_169 : decode cX5_odds 169 = .ok (.lmul, 1) := by decide +kernel
theorem dX5_odds_170 : decode cX5_odds 170 = .ok (.lreturn, 1) := by decide +kernel
set_option maxRecDepth 20000 in
theorem ggX5_match_X2_stands : GoodIn wsX5_match wsX2_stands := goodIn_r _ [10, 11, 97, 98, 99, 100, 101] (by decide +kernel) (by decide +kernel)
set_option maxRecDepth 20000 in
theorem gX5_match_X2_stands : GoodIn wsX5_match (wsV RX5 141 RX2 yX2_stands wsX2_stands) := goodIn_app (goodIn_of _ (by decide +kernel)) ggX5_match_X2_stands
set_option maxRecDepth 20000 in
theorem ggX5_match_X3_solve : GoodIn wsX5_match wsX3_solve := goodIn_r _ [16, 17, 18, 19, 20, 21, 22, 23, 24, 9, 25, 11, 26, 27, 28, 29, 30, 31, 32, 33, 34, 35, 36, 37, 38, 39, 40, 41, 42, 43, 44, 45, 46, 47, 48, 49, 50, 15, 51, 52, 53, 54, 55, 56, 57, 58, 59, 60, 61, 62, 63, 64, 65, 66, 67, 68, 69, 70, 71, 72, 73, 74, 75, 76, 77, 78, 79, 80, 81, 82, 91, 92, 93, 94, 95, 96, 102, 103, 104, 105, 106, 107, 108, 109, 110, 97, 98, 99, 100, 101] (by decide +kernel) (by decide +kernel)
set_option maxRecDepth 20000 in
theorem gX5_match_X3_solve : GoodIn wsX5_match (wsV RX5 160 RX3 yX3_solve wsX3_solve) := goodIn_app (goodIn_of _ (by decide +kernel)) ggX5_match_X3_solve
theorem dX5_match_0 : decode cX5_match 0 = .ok (.iload_n 1, 1) := by decide +kernel
theorem dX5_match_1 : decode cX5_match 1 = .ok (.ifCond .eq 18, 3) := by decide +kernel
theorem dX5_match_4 : decode cX5_match 4 = .ok (.iload_n 1, 1) := by decide +kernel
theorem dX5_match_5 : decode cX5_match 5 = .ok (.bipush 10, 2) := by decide +kernel
theorem dX5_match_7 : decode cX5_match 7 = .ok (.if_icmp .lt 9, 3) := by decide +kernel
theorem dX5_match_10 : decode cX5_match 10 = .ok (.iload_n 1, 1) := by decide +kernel
theorem dX5_match_11 : decode cX5_match 11 = .ok (.bipush 15, 2) := by decide +kernel
theorem dX5_match_13 : decode cX5_match 13 = .ok (.if_icmp .lt 6, 3) := by decide +kernel
theorem dX5_match_16 : decode cX5_match 16 = .ok (.bipush (-102), 2) := by decide +kernel
theorem dX5_match_18 : decode cX5_match 18 = .ok (.ireturn, 1) := by decide +kernel
theorem dX5_match_19 : decode cX5_match 19 = .ok (.aload_n 0, 1) := by decide +kernel
theorem dX5_match_20 : decode cX5_match 20 = .ok (.getfield 19, 3) := by decide +kernel
theorem dX5_match_23 : decode cX5_match 23 = .ok (.invokevirtual 141, 3) := by decide +kernel
theorem dX5_match_26 : decode cX5_match 26 = .ok (.ifCond .ne 6, 3) := by decide +kernel
theorem dX5_match_29 : decode cX5_match 29 = .ok (.bipush (-103), 2) := by decide +kernel
theorem dX5_match_31 : decode cX5_match 31 = .ok (.ireturn, 1) := by decide +kernel
theorem dX5_match_32 : decode cX5_match 32 = .ok (.aload_n 0, 1) := by decide +kernel
theorem dX5_match_33 : decode cX5_match 33 = .ok (.getfield 36, 3) := by decide +kernel
theorem dX5_match_36 : decode cX5_match 36 = .ok (.aload_n 0, 1) := by decide +kernel
theorem dX5_match_37 : decode cX5_match 37 = .ok (.getfield 19, 3) := by decide +kernel
theorem dX5_match_40 : decode cX5_match 40 = .ok (.aload_n 0, 1) := by decide +kernel
theorem dX5_match_41 : decode cX5_match 41 = .ok (.getfield 26, 3) := by decide +kernel
theorem dX5_match_44 : decode cX5_match 44 = .ok (.invokevirtual 160, 3) := by decide +kernel
theorem dX5_match_47 : decode cX5_match 47 = .ok (.iload_n 1, 1) := by decide +kernel
theorem dX5_match_48 : decode cX5_match 48 = .ok (.ifCond .ne 13, 3) := by decide +kernel
theorem dX5_match_51 : decode cX5_match 51 = .ok (.aload_n 0, 1) := by decide +kernel
theorem dX5_match_52 : decode cX5_match 52 = .ok (.getfield 36, 3) := by decide +kernel
theorem dX5_match_55 : decode cX5_match 55 = .ok (.getfield 164, 3) := by decide +kernel
theorem dX5_match_58 : decode cX5_match 58 = .ok (.goto 15, 3) := by decide +kernel
theorem dX5_match_61 : decode cX5_match 61 = .ok (.aload_n 0, 1) := by decide +kernel
theorem dX5_match_62 : decode cX5_match 62 = .ok (.getfield 36, 3) := by decide +kernel
theorem dX5_match_65 : decode cX5_match 65 = .ok (.getfield 167, 3) := by decide +kernel
theorem dX5_match_68 : decode cX5_match 68 = .ok (.iload_n 1, 1) := by decide +kernel
theorem dX5_match_69 : decode cX5_match 69 = .ok (.bipush 10, 2) := by decide +kernel
theorem dX5_match_71 : decode cX5_match 71 = .ok (.isub, 1) := by decide +kernel
theorem dX5_match_72 : decode cX5_match 72 = .ok (.iaload, 1) := by decide +kernel
theorem dX5_match_73 : decode cX5_match 73 = .ok (.ireturn, 1) := by decide +kernel
set_option maxRecDepth 20000 in
theorem ggX5_see_X2_hasKeeper : GoodIn wsX5_see wsX2_hasKeeper := goodIn_r _ [11, 12, 30, 31, 32, 33, 34] (by decide +kernel) (by decide +kernel)
set_option maxRecDepth 20000 in
theorem gX5_see_X2_hasKeeper : GoodIn wsX5_see (wsV RX5 80 RX2 yX2_hasKeeper wsX2_hasKeeper) := goodIn_app (goodIn_of _ (by decide +kernel)) ggX5_see_X2_hasKeeper
theorem dX5_see_0 : decode cX5_see 0 = .ok (.aload_n 0, 1) := by decide +kernel
theorem dX5_see_1 : decode cX5_see 1 = .ok (.getfield 19, 3) := by decide +kernel
theorem dX5_see_4 : decode cX5_see 4 = .ok (.iload_n 1, 1) := by decide +kernel
theorem dX5_see_5 : decode cX5_see 5 = .ok (.invokevirtual 80, 3) := by decide +kernel
theorem dX5_see_8 : decode cX5_see 8 = .ok (.ifCond .ne 6, 3) := by decide +kernel
theorem dX5_see_11 : decode cX5_see 11 = .ok (.bipush (-101), 2) := by decide +kernel
theorem dX5_see_13 : decode cX5_see 13 = .ok (.ireturn, 1) := by decide +kernel
theorem dX5_see_14 : decode cX5_see 14 = .ok (.iload_n 2, 1) := by decide +kernel
theorem dX5_see_15 : decode cX5_see 15 = .ok (.ifCond .lt 9, 3) := by decide +kernel
theorem dX5_see_18 : decode cX5_see 18 = .ok (.iload_n 2, 1) := by decide +kernel
theorem dX5_see_19 : decode cX5_see 19 = .ok (.bipush 9, 2) := by decide +kernel
theorem dX5_see_21 : decode cX5_see 21 = .ok (.if_icmp .le 6, 3) := by decide +kernel
theorem dX5_see_24 : decode cX5_see 24 = .ok (.bipush (-102), 2) := by decide +kernel
theorem dX5_see_26 : decode cX5_see 26 = .ok (.ireturn, 1) := by decide +kernel
theorem dX5_see_27 : decode cX5_see 27 = .ok (.aload_n 0, 1) := by decide +kernel
theorem dX5_see_28 : decode cX5_see 28 = .ok (.getfield 26, 3) := by decide +kernel
theorem dX5_see_31 : decode cX5_see 31 = .ok (.getfield 170, 3) := by decide +kernel
theorem dX5_see_34 : decode cX5_see 34 = .ok (.bipush 8, 2) := by decide +kernel
theorem dX5_see_36 : decode cX5_see 36 = .ok (.if_icmp .lt 6, 3) := by decide +kernel
theorem dX5_see_39 : decode cX5_see 39 = .ok (.bipush (-104), 2) := by decide +kernel
theorem dX5_see_41 : decode cX5_see 41 = .ok (.ireturn, 1) := by decide +kernel
theorem dX5_see_42 : decode cX5_see 42 = .ok (.aload_n 0, 1) := by decide +kernel
theorem dX5_see_43 : decode cX5_see 43 = .ok (.getfield 26, 3) := by decide +kernel
theorem dX5_see_46 : decode cX5_see 46 = .ok (.getfield 173, 3) := by decide +kernel
theorem dX5_see_49 : decode cX5_see 49 = .ok (.aload_n 0, 1) := by decide +kernel
theorem dX5_see_50 : decode cX5_see 50 = .ok (.getfield 26, 3) := by decide +kernel
theorem dX5_see_53 : decode cX5_see 53 = .ok (.getfield 170, 3) := by decide +kernel
theorem dX5_see_56 : decode cX5_see 56 = .ok (.iload_n 1, 1) := by decide +kernel
theorem dX5_see_57 : decode cX5_see 57 = .ok (.iastore, 1) := by decide +kernel
theorem dX5_see_58 : decode cX5_see 58 = .ok (.aload_n 0, 1) := by decide +kernel
theorem dX5_see_59 : decode cX5_see 59 = .ok (.getfield 26, 3) := by decide +kernel
theorem dX5_see_62 : decode cX5_see 62 = .ok (.getfield 176, 3) := by decide +kernel
theorem dX5_see_65 : decode cX5_see 65 = .ok (.aload_n 0, 1) := by decide +kernel
theorem dX5_see_66 : decode cX5_see 66 = .ok (.getfield 26, 3) := by decide +kernel
theorem dX5_see_69 : decode cX5_see 69 = .ok (.getfield 170, 3) := by decide +kernel
theorem dX5_see_72 : decode cX5_see 72 = .ok (.iload_n 2, 1) := by decide +kernel
theorem dX5_see_73 : decode cX5_see 73 = .ok (.iastore, 1) := by decide +kernel
theorem dX5_see_74 : decode cX5_see 74 = .ok (.aload_n 0, 1) := by decide +kernel
theorem dX5_see_75 : decode cX5_see 75 = .ok (.getfield 26, 3) := by decide +kernel
theorem dX5_see_78 : decode cX5_see 78 = .ok (.getfield 179, 3) := by decide +kernel
theorem dX5_see_81 : decode cX5_see 81 = .ok (.aload_n 0, 1) := by decide +kernel
theorem dX5_see_82 : decode cX5_see 82 = .ok (.getfield 26, 3) := by decide +kernel
theorem dX5_see_85 : decode cX5_see 85 = .ok (.getfield 170, 3) := by decide +kernel
theorem dX5_see_88 : decode cX5_see 88 = .ok (.iload_n 3, 1) := by decide +kernel
theorem dX5_see_89 : decode cX5_see 89 = .ok (.bastore, 1) := by decide +kernel
theorem dX5_see_90 : decode cX5_see 90 = .ok (.aload_n 0, 1) := by decide +kernel
theorem dX5_see_91 : decode cX5_see 91 = .ok (.getfield 26, 3) := by decide +kernel
theorem dX5_see_94 : decode cX5_see 94 = .ok (.dup, 1) := by decide +kernel
theorem dX5_see_95 : decode cX5_see 95 = .ok (.getfield 170, 3) := by decide +kernel
theorem dX5_see_98 : decode cX5_see 98 = .ok (.iconst 1, 1) := by decide +kernel
theorem dX5_see_99 : decode cX5_see 99 = .ok (.iadd, 1) := by decide +kernel
theorem dX5_see_100 : decode cX5_see 100 = .ok (.putfield 170, 3) := by decide +kernel
theorem dX5_see_103 : decode cX5_see 103 = .ok (.aload_n 0, 1) := by decide +kernel
theorem dX5_see_104 : decode cX5_see 104 = .ok (.getfield 26, 3) := by decide +kernel
theorem dX5_see_107 : decode cX5_see 107 = .ok (.getfield 170, 3) := by decide +kernel
theorem dX5_see_110 : decode cX5_see 110 = .ok (.ireturn, 1) := by decide +kernel
theorem dX5_forget_0 : decode cX5_forget 0 = .ok (.aload_n 0, 1) := by decide +kernel
theorem dX5_forget_1 : decode cX5_forget 1 = .ok (.getfield 26, 3) := by decide +kernel
theorem dX5_forget_4 : decode cX5_forget 4 = .ok (.getfield 170, 3) := by decide +kernel
theorem dX5_forget_7 : decode cX5_forget 7 = .ok (.istore_n 1, 1) := by decide +kernel
theorem dX5_forget_8 : decode cX5_forget 8 = .ok (.aload_n 0, 1) := by decide +kernel
theorem dX5_forget_9 : decode cX5_forget 9 = .ok (.getfield 26, 3) := by decide +kernel
theorem dX5_forget_12 : decode cX5_forget 12 = .ok (.iconst 0, 1) := by decide +kernel
theorem dX5_forget_13 : decode cX5_forget 13 = .ok (.putfield 170, 3) := by decide +kernel
theorem dX5_forget_16 : decode cX5_forget 16 = .ok (.iload_n 1, 1) := by decide +kernel
theorem dX5_forget_17 : decode cX5_forget 17 = .ok (.ireturn, 1) := by decide +kernel
set_option maxRecDepth 20000 in
theorem ggX5_centuries_X2_stands : GoodIn wsX5_centuries wsX2_stands := goodIn_r _ [10, 11, 86, 87, 88, 89, 90] (by decide +kernel) (by decide +kernel)
set_option maxRecDepth 20000 in
theorem gX5_centuries_X2_stands : GoodIn wsX5_centuries (wsV RX5 141 RX2 yX2_stands wsX2_stands) := goodIn_app (goodIn_of _ (by decide +kernel)) ggX5_centuries_X2_stands
set_option maxRecDepth 20000 in
theorem ggX5_centuries_X1_pass : GoodIn wsX5_centuries wsX1_pass := goodIn_r _ [16, 17, 18, 19, 20, 21, 22, 23, 24, 25, 26, 27, 28, 29, 30, 15, 31, 32, 33, 34, 35, 36, 37, 38, 39, 40, 41, 42, 43, 44, 9, 45, 46, 47, 48, 49, 50, 51, 11, 52, 53, 54, 55, 56, 57, 58, 59, 60, 61, 62, 63, 64, 65, 66, 67, 68, 91, 92, 93, 94, 95, 96, 97, 98, 99, 83, 84, 85, 86, 87, 88, 89, 90] (by decide +kernel) (by decide +kernel)
set_option maxRecDepth 20000 in
theorem gX5_centuries_X1_pass : GoodIn wsX5_centuries (wsV RX5 183 RX1 yX1_pass wsX1_pass) := goodIn_app (goodIn_of _ (by decide +kernel)) ggX5_centuries_X1_pass
set_option maxRecDepth 20000 in
theorem ggX5_centuries_X1_allEggs : GoodIn wsX5_centuries wsX1_allEggs := goodIn_r _ [72, 18, 73, 53, 74, 83, 84, 85] (by decide +kernel) (by decide +kernel)
set_option maxRecDepth 20000 in
theorem gX5_centuries_X1_allEggs : GoodIn wsX5_centuries (wsV RX5 189 RX1 yX1_allEggs wsX1_allEggs) := goodIn_app (goodIn_of _ (by decide +kernel)) ggX5_centuries_X1_allEggs
theorem dX5_centuries_0 : decode cX5_centuries 0 = .ok (.iload_n 1, 1) := by decide +kernel
theorem dX5_centuries_1 : decode cX5_centuries 1 = .ok (.iconst 1, 1) := by decide +kernel
theorem dX5_centuries_2 : decode cX5_centuries 2 = .ok (.if_icmp .lt 22, 3) := by decide +kernel
theorem dX5_centuries_5 : decode cX5_centuries 5 = .ok (.iload_n 1, 1) := by decide +kernel
theorem dX5_centuries_6 : decode cX5_centuries 6 = .ok (.bipush 60, 2) := by decide +kernel
theorem dX5_centuries_8 : decode cX5_centuries 8 = .ok (.if_icmp .gt 16, 3) := by decide +kernel
theorem dX5_centuries_11 : decode cX5_centuries 11 = .ok (.iload_n 2, 1) := by decide +kernel
theorem dX5_centuries_12 : decode cX5_centuries 12 = .ok (.ifCond .lt 12, 3) := by decide +kernel
theorem dX5_centuries_15 : decode cX5_centuries 15 = .ok (.iload_n 3, 1) := by decide +kernel
theorem dX5_centuries_16 : decode cX5_centuries 16 = .ok (.ifCond .lt 8, 3) := by decide +kernel
theorem dX5_centuries_19 : decode cX5_centuries 19 = .ok (.iload_n 3, 1) := by decide +kernel
theorem dX5_centuries_20 : decode cX5_centuries 20 = .ok (.iconst 2, 1) := by decide +kernel
theorem dX5_centuries_21 : decode cX5_centuries 21 = .ok (.if_icmp .le 6, 3) := by decide +kernel
theorem dX5_centuries_24 : decode cX5_centuries 24 = .ok (.bipush (-102), 2) := by decide +kernel
theorem dX5_centuries_26 : decode cX5_centuries 26 = .ok (.ireturn, 1) := by decide +kernel
theorem dX5_centuries_27 : decode cX5_centuries 27 = .ok (.aload_n 0, 1) := by decide +kernel
theorem dX5_centuries_28 : decode cX5_centuries 28 = .ok (.getfield 19, 3) := by decide +kernel
theorem dX5_centuries_31 : decode cX5_centuries 31 = .ok (.invokevirtual 141, 3) := by decide +kernel
theorem dX5_centuries_34 : decode cX5_centuries 34 = .ok (.ifCond .ne 6, 3) := by decide +kernel
theorem dX5_centuries_37 : decode cX5_centuries 37 = .ok (.bipush (-103), 2) := by decide +kernel
theorem dX5_centuries_39 : decode cX5_centuries 39 = .ok (.ireturn, 1) := by decide +kernel
theorem dX5_centuries_40 : decode cX5_centuries 40 = .ok (.aload_n 0, 1) := by decide +kernel
theorem dX5_centuries_41 : decode cX5_centuries 41 = .ok (.getfield 43, 3) := by decide +kernel
theorem dX5_centuries_44 : decode cX5_centuries 44 = .ok (.aload_n 0, 1) := by decide +kernel
theorem dX5_centuries_45 : decode cX5_centuries 45 = .ok (.getfield 19, 3) := by decide +kernel
theorem dX5_centuries_48 : decode cX5_centuries 48 = .ok (.aload_n 0, 1) := by decide +kernel
theorem dX5_centuries_49 : decode cX5_centuries 49 = .ok (.getfield 26, 3) := by decide +kernel
theorem dX5_centuries_52 : decode cX5_centuries 52 = .ok (.iload_n 1, 1) := by decide +kernel
theorem dX5_centuries_53 : decode cX5_centuries 53 = .ok (.iload_n 2, 1) := by decide +kernel
theorem dX5_centuries_54 : decode cX5_centuries 54 = .ok (.invokevirtual 183, 3) := by decide +kernel
theorem dX5_centuries_57 : decode cX5_centuries 57 = .ok (.iload_n 3, 1) := by decide +kernel
theorem dX5_centuries_58 : decode cX5_centuries 58 = .ok (.lookupswitch 42 #[(0, 26), (1, 34)], 26) := by decide +kernel
theorem dX5_centuries_84 : decode cX5_centuries 84 = .ok (.aload_n 0, 1) := by decide +kernel
theorem dX5_centuries_85 : decode cX5_centuries 85 = .ok (.getfield 43, 3) := by decide +kernel
theorem dX5_centuries_88 : decode cX5_centuries 88 = .ok (.getfield 187, 3) := by decide +kernel
theorem dX5_centuries_91 : decode cX5_centuries 91 = .ok (.ireturn, 1) := by decide +kernel
theorem dX5_centuries_92 : decode cX5_centuries 92 = .ok (.aload_n 0, 1) := by decide +kernel
theorem dX5_centuries_93 : decode cX5_centuries 93 = .ok (.getfield 43, 3) := by decide +kernel
theorem dX5_centuries_96 : decode cX5_centuries 96 = .ok (.invokevirtual 189, 3) := by decide +kernel
theorem dX5_centuries_99 : decode cX5_centuries 99 = .ok (.ireturn, 1) := by decide +kernel
theorem dX5_centuries_100 : decode cX5_centuries 100 = .ok (.aload_n 0, 1) := by decide +kernel
theorem dX5_centuries_101 : decode cX5_centuries 101 = .ok (.getfield 43, 3) := by decide +kernel
theorem dX5_centuries_104 : decode cX5_centuries 104 = .ok (.getfield 192, 3) := by decide +kernel
theorem dX5_centuries_107 : decode cX5_centuries 107 = .ok (.l2i, 1) := by decide +kernel
theorem dX5_centuries_108 : decode cX5_centuries 108 = .ok (.ireturn, 1) := by decide +kernel
set_option maxRecDepth 20000 in
theorem ggX5_image_X2_stands : GoodIn wsX5_image wsX2_stands := goodIn_r _ [10, 11, 47, 48, 49, 50, 51] (by decide +kernel) (by decide +kernel)
set_option maxRecDepth 20000 in
theorem gX5_image_X2_stands : GoodIn wsX5_image (wsV RX5 141 RX2 yX2_stands wsX2_stands) := goodIn_app (goodIn_of _ (by decide +kernel)) ggX5_image_X2_stands
set_option maxRecDepth 20000 in
theorem ggX5_image_X0_copyFrom : GoodIn wsX5_image wsX0_copyFrom := goodIn_r _ [16, 17, 18, 19, 20, 21, 22, 23, 24, 25, 26, 27, 28, 29, 38, 39, 40, 41, 42, 43, 44, 45, 46] (by decide +kernel) (by decide +kernel)
set_option maxRecDepth 20000 in
theorem gX5_image_X0_copyFrom : GoodIn wsX5_image (wsV RX5 196 RX0 yX0_copyFrom wsX0_copyFrom) := goodIn_app (goodIn_of _ (by decide +kernel)) ggX5_image_X0_copyFrom
theorem dX5_image_0 : decode cX5_image 0 = .ok (.aload_n 0, 1) := by decide +kernel
theorem dX5_image_1 : decode cX5_image 1 = .ok (.getfield 19, 3) := by decide +kernel
theorem dX5_image_4 : decode cX5_image 4 = .ok (.invokevirtual 141, 3) := by decide +kernel
theorem dX5_image_7 : decode cX5_image 7 = .ok (.ifCond .ne 6, 3) := by decide +kernel
theorem dX5_image_10 : decode cX5_image 10 = .ok (.bipush (-103), 2) := by decide +kernel
theorem dX5_image_12 : decode cX5_image 12 = .ok (.ireturn, 1) := by decide +kernel
theorem dX5_image_13 : decode cX5_image 13 = .ok (.aload_n 0, 1) := by decide +kernel
theorem dX5_image_14 : decode cX5_image 14 = .ok (.getfield 30, 3) := by decide +kernel
theorem dX5_image_17 : decode cX5_image 17 = .ok (.aload_n 0, 1) := by decide +kernel
theorem dX5_image_18 : decode cX5_image 18 = .ok (.getfield 26, 3) := by decide +kernel
theorem dX5_image_21 : decode cX5_image 21 = .ok (.invokevirtual 196, 3) := by decide +kernel
theorem dX5_image_24 : decode cX5_image 24 = .ok (.aload_n 0, 1) := by decide +kernel
theorem dX5_image_25 : decode cX5_image 25 = .ok (.iconst 1, 1) := by decide +kernel
theorem dX5_image_26 : decode cX5_image 26 = .ok (.putfield 47, 3) := by decide +kernel
theorem dX5_image_29 : decode cX5_image 29 = .ok (.aload_n 0, 1) := by decide +kernel
theorem dX5_image_30 : decode cX5_image 30 = .ok (.getfield 26, 3) := by decide +kernel
theorem dX5_image_33 : decode cX5_image 33 = .ok (.getfield 144, 3) := by decide +kernel
theorem dX5_image_36 : decode cX5_image 36 = .ok (.ireturn, 1) := by decide +kernel
set_option maxRecDepth 20000 in
theorem ggX5_restore_X0_copyFrom : GoodIn wsX5_restore wsX0_copyFrom := goodIn_r _ [9, 10, 11, 12, 13, 14, 15, 16, 17, 18, 19, 20, 21, 22, 31, 32, 33, 34, 35, 36, 37, 38, 39] (by decide +kernel) (by decide +kernel)
set_option maxRecDepth 20000 in
theorem gX5_restore_X0_copyFrom : GoodIn wsX5_restore (wsV RX5 196 RX0 yX0_copyFrom wsX0_copyFrom) := goodIn_app (goodIn_of _ (by decide +kernel)) ggX5_restore_X0_copyFrom
theorem dX5_restore_0 : decode cX5_restore 0 = .ok (.aload_n 0, 1) := by decide +kernel
theorem dX5_restore_1 : decode cX5_restore 1 = .ok (.getfield 47, 3) := by decide +kernel
theorem dX5_restore_4 : decode cX5_restore 4 = .ok (.ifCond .ne 6, 3) := by decide +kernel
theorem dX5_restore_7 : decode cX5_restore 7 = .ok (.bipush (-103), 2) := by decide +kernel
theorem dX5_restore_9 : decode cX5_restore 9 = .ok (.ireturn, 1) := by decide +kernel
theorem dX5_restore_10 : decode cX5_restore 10 = .ok (.aload_n 0, 1) := by decide +kernel
theorem dX5_restore_11 : decode cX5_restore 11 = .ok (.getfield 26, 3) := by decide +kernel
theorem dX5_restore_14 : decode cX5_restore 14 = .ok (.aload_n 0, 1) := by decide +kernel
theorem dX5_restore_15 : decode cX5_restore 15 = .ok (.getfield 30, 3) := by decide +kernel
theorem dX5_restore_18 : decode cX5_restore 18 = .ok (.invokevirtual 196, 3) := by decide +kernel
theorem dX5_restore_21 : decode cX5_restore 21 = .ok (.aload_n 0, 1) := by decide +kernel
theorem dX5_restore_22 : decode cX5_restore 22 = .ok (.getfield 26, 3) := by decide +kernel
theorem dX5_restore_25 : decode cX5_restore 25 = .ok (.getfield 144, 3) := by decide +kernel
theorem dX5_restore_28 : decode cX5_restore 28 = .ok (.ireturn, 1) := by decide +kernel
set_option maxRecDepth 20000 in
theorem ggX5_count_X0_holesWith : GoodIn wsX5_count wsX0_holesWith := goodIn_r _ [16, 17, 35, 36, 37, 38, 39, 40, 41, 42, 43] (by decide +kernel) (by decide +kernel)
set_option maxRecDepth 20000 in
theorem gX5_count_X0_holesWith : GoodIn wsX5_count (wsV RX5 203 RX0 yX0_holesWith wsX0_holesWith) := goodIn_app (goodIn_of _ (by decide +kernel)) ggX5_count_X0_holesWith
set_option maxRecDepth 20000 in
theorem ggX5_count_X5_sum : GoodIn wsX5_count wsX5_sum := goodIn_r _ [21] (by decide +kernel) (by decide +kernel)
set_option maxRecDepth 20000 in
theorem gX5_count_X5_sum : GoodIn wsX5_count (va_wsS RX5 206 yX5_sum wsX5_sum) := goodIn_app (goodIn_of _ (by decide +kernel)) ggX5_count_X5_sum
theorem dX5_count_0 : decode cX5_count 0 = .ok (.iload_n 1, 1) := by decide +kernel
theorem dX5_count_1 : decode cX5_count 1 = .ok (.tableswitch 140 0 9 #[55, 63, 71, 80, 89, 100, 111, 119, 127, 135], 55) := by decide +kernel
theorem dX5_count_56 : decode cX5_count 56 = .ok (.aload_n 0, 1) := by decide +kernel
theorem dX5_count_57 : decode cX5_count 57 = .ok (.getfield 19, 3) := by decide +kernel
theorem dX5_count_60 : decode cX5_count 60 = .ok (.getfield 200, 3) := by decide +kernel
theorem dX5_count_63 : decode cX5_count 63 = .ok (.ireturn, 1) := by decide +kernel
theorem dX5_count_64 : decode cX5_count 64 = .ok (.aload_n 0, 1) := by decide +kernel
theorem dX5_count_65 : decode cX5_count 65 = .ok (.getfield 19, 3) := by decide +kernel
theorem dX5_count_68 : decode cX5_count 68 = .ok (.getfield 77, 3) := by decide +kernel
theorem dX5_count_71 : decode cX5_count 71 = .ok (.ireturn, 1) := by decide +kernel
theorem dX5_count_72 : decode cX5_count 72 = .ok (.aload_n 0, 1) := by decide +kernel
theorem dX5_count_73 : decode cX5_count 73 = .ok (.getfield 26, 3) := by decide +kernel
theorem dX5_count_76 : decode cX5_count 76 = .ok (.iconst 1, 1) := by decide +kernel
theorem dX5_count_77 : decode cX5_count 77 = .ok (.invokevirtual 203, 3) := by decide +kernel
theorem dX5_count_80 : decode cX5_count 80 = .ok (.ireturn, 1) := by decide +kernel
theorem dX5_count_81 : decode cX5_count 81 = .ok (.aload_n 0, 1) := by decide +kernel
theorem dX5_count_82 : decode cX5_count 82 = .ok (.getfield 26, 3) := by decide +kernel
theorem dX5_count_85 : decode cX5_count 85 = .ok (.iconst 2, 1) := by decide +kernel
theorem dX5_count_86 : decode cX5_count 86 = .ok (.invokevirtual 203, 3) := by decide +kernel
theorem dX5_count_89 : decode cX5_count 89 = .ok (.ireturn, 1) := by decide +kernel
theorem dX5_count_90 : decode cX5_count 90 = .ok (.aload_n 0, 1) := by decide +kernel
theorem dX5_count_91 : decode cX5_count 91 = .ok (.getfield 26, 3) := by decide +kernel
theorem dX5_count_94 : decode cX5_count 94 = .ok (.getfield 126, 3) := by decide +kernel
theorem dX5_count_97 : decode cX5_count 97 = .ok (.invokestatic 206, 3) := by decide +kernel
theorem dX5_count_100 : decode cX5_count 100 = .ok (.ireturn, 1) := by decide +kernel
theorem dX5_count_101 : decode cX5_count 101 = .ok (.aload_n 0, 1) := by decide +kernel
theorem dX5_count_102 : decode cX5_count 102 = .ok (.getfield 26, 3) := by decide +kernel
theorem dX5_count_105 : decode cX5_count 105 = .ok (.getfield 97, 3) := by decide +kernel
theorem dX5_count_108 : decode cX5_count 108 = .ok (.invokestatic 206, 3) := by decide +kernel
theorem dX5_count_111 : decode cX5_count 111 = .ok (.ireturn, 1) := by decide +kernel
theorem dX5_count_112 : decode cX5_count 112 = .ok (.aload_n 0, 1) := by decide +kernel
theorem dX5_count_113 : decode cX5_count 113 = .ok (.getfield 26, 3) := by decide +kernel
theorem dX5_count_116 : decode cX5_count 116 = .ok (.getfield 144, 3) := by decide +kernel
theorem dX5_count_119 : decode cX5_count 119 = .ok (.ireturn, 1) := by decide +kernel
theorem dX5_count_120 : decode cX5_count 120 = .ok (.aload_n 0, 1) := by decide +kernel
theorem dX5_count_121 : decode cX5_count 121 = .ok (.getfield 26, 3) := by decide +kernel
theorem dX5_count_124 : decode cX5_count 124 = .ok (.getfield 170, 3) := by decide +kernel
theorem dX5_count_127 : decode cX5_count 127 = .ok (.ireturn, 1) := by decide +kernel
theorem dX5_count_128 : decode cX5_count 128 = .ok (.aload_n 0, 1) := by decide +kernel
theorem dX5_count_129 : decode cX5_count 129 = .ok (.getfield 10, 3) := by decide +kernel
theorem dX5_count_132 : decode cX5_count 132 = .ok (.getfield 55, 3) := by decide +kernel
theorem dX5_count_135 : decode cX5_count 135 = .ok (.ireturn, 1) := by decide +kernel
theorem dX5_count_136 : decode cX5_count 136 = .ok (.aload_n 0, 1) := by decide +kernel
theorem dX5_count_137 : decode cX5_count 137 = .ok (.getfield 51, 3) := by decide +kernel
theorem dX5_count_140 : decode cX5_count 140 = .ok (.ireturn, 1) := by decide +kernel
theorem dX5_count_141 : decode cX5_count 141 = .ok (.bipush (-102), 2) := by decide +kernel
theorem dX5_count_143 : decode cX5_count 143 = .ok (.ireturn, 1) := by decide +kernel
set_option maxRecDepth 20000 in
theorem ggX5_digest_X5_digestKeeper : GoodIn wsX5_digest wsX5_digestKeeper := goodIn_r _ [12, 13, 14, 15, 11, 16, 2, 17, 18, 19, 20, 21, 22, 23, 24, 25, 26, 27, 28, 29, 30, 31, 32, 33, 34, 35, 36, 37, 38, 39, 40, 41, 42, 43, 44, 45, 46, 47, 48, 49, 50, 51, 52, 53, 54, 55, 56, 57, 58, 59, 60, 61, 62, 63, 64, 65, 66, 67, 68, 69, 70, 71, 72, 73, 74, 75, 76, 77, 78, 79, 80, 81, 170, 171, 172, 173, 174, 175, 176, 177, 178, 179, 180, 181, 182, 186, 187, 188, 189, 190, 191, 192, 193, 194] (by decide +kernel) (by decide +kernel)
set_option maxRecDepth 20000 in
theorem gX5_digest_X5_digestKeeper : GoodIn wsX5_digest (wsV RX5 212 RX5 yX5_digestKeeper wsX5_digestKeeper) := goodIn_app (goodIn_of _ (by decide +kernel)) ggX5_digest_X5_digestKeeper
set_option maxRecDepth 20000 in
theorem ggX5_digest_X5_hole : GoodIn wsX5_digest wsX5_hole := goodIn_r _ [85, 2, 86, 19, 87, 88, 89, 90, 91, 92, 24, 93, 94, 75, 76, 77, 78, 79, 80, 81, 22, 23, 25, 26, 51, 11, 52, 53, 54, 55, 56, 57, 58, 59, 60, 61, 62, 170, 171, 172, 173, 174, 175, 176, 177, 178, 179, 180, 181, 182, 186, 187, 188, 189, 190, 191, 192, 193, 194] (by decide +kernel) (by decide +kernel)
set_option maxRecDepth 20000 in
theorem gX5_digest_X5_hole : GoodIn wsX5_digest (wsV RX5 216 RX5 yX5_hole wsX5_hole) := goodIn_app (goodIn_of _ (by decide +kernel)) ggX5_digest_X5_hole
set_option maxRecDepth 20000 in
theorem ggX5_digest_X5_digestNumber : GoodIn wsX5_digest wsX5_digestNumber := goodIn_r _ [69, 70] (by decide +kernel) (by decide +kernel)
set_option maxRecDepth 20000 in
theorem gX5_digest_X5_digestNumber : GoodIn wsX5_digest (va_wsS RX5 219 yX5_digestNumber wsX5_digestNumber) := goodIn_app (goodIn_of _ (by decide +kernel)) ggX5_digest_X5_digestNumber
set_option maxRecDepth 20000 in
theorem ggX5_digest_X2_stands : GoodIn wsX5_digest wsX2_stands := goodIn_r _ [98, 26, 178, 179, 180, 181, 182] (by decide +kernel) (by decide +kernel)
set_option maxRecDepth 20000 in
theorem gX5_digest_X2_stands : GoodIn wsX5_digest (wsV RX5 141 RX2 yX2_stands wsX2_stands) := goodIn_app (goodIn_of _ (by decide +kernel)) ggX5_digest_X2_stands
set_option maxRecDepth 20000 in
theorem ggX5_digest_X5_digestWhatWouldBe : GoodIn wsX5_digest wsX5_digestWhatWouldBe := goodIn_r _ [102, 103, 2, 19, 104, 105, 106, 107, 108, 11, 109, 110, 111, 4, 88, 87, 86, 112, 95, 96, 97, 24, 98, 26, 75, 76, 77, 78, 79, 80, 81, 22, 23, 25, 51, 52, 53, 54, 55, 56, 57, 58, 59, 60, 61, 62, 113, 114, 115, 67, 68, 69, 70, 116, 117, 118, 119, 120, 121, 122, 123, 124, 125, 126, 127, 128, 129, 30, 130, 131, 28, 29, 31, 32, 132, 133, 134, 135, 136, 137, 138, 139, 91, 92, 93, 94, 140, 141, 142, 143, 144, 145, 146, 147, 148, 149, 150, 151, 152, 153, 154, 155, 170, 171, 172, 173, 174, 175, 176, 177, 195, 196, 197, 198, 199, 200, 178, 179, 180, 181, 182, 186, 187, 188, 189, 190, 191, 192, 193, 194] (by decide +kernel) (by decide +kernel)
set_option maxRecDepth 20000 in
theorem gX5_digest_X5_digestWhatWouldBe : GoodIn wsX5_digest (wsV RX5 222 RX5 yX5_digestWhatWouldBe wsX5_digestWhatWouldBe) := goodIn_app (goodIn_of _ (by decide +kernel)) ggX5_digest_X5_digestWhatWouldBe
set_option maxRecDepth 20000 in
theorem ggX5_digest_X5_count : GoodIn wsX5_digest wsX5_count := goodIn_r _ [159, 2, 3, 4, 19, 89, 20, 160, 46, 5, 6, 161, 162, 163, 164, 30, 165, 166, 167, 168, 11, 169, 170, 171, 172, 173, 174, 175, 176, 177, 178, 179, 180, 181, 182, 186, 187, 188, 189, 190, 191, 192, 193, 194, 183, 184, 185] (by decide +kernel) (by decide +kernel)
set_option maxRecDepth 20000 in
theorem gX5_digest_X5_count : GoodIn wsX5_digest (wsV RX5 226 RX5 yX5_count wsX5_count) := goodIn_app (goodIn_of _ (by decide +kernel)) ggX5_digest_X5_count
theorem dX5_digest_0 : decode cX5_digest 0 = .ok (.ldc2_w 210, 3) := by decide +kernel
theorem dX5_digest_3 : decode cX5_digest 3 = .ok (.lstore_n 1, 1) := by decide +kernel
theorem dX5_digest_4 : decode cX5_digest 4 = .ok (.iconst 0, 1) := by decide +kernel
theorem dX5_digest_5 : decode cX5_digest 5 = .ok (.istore_n 3, 1) := by decide +kernel
theorem dX5_digest_6 : decode cX5_digest 6 = .ok (.iload_n 3, 1) := by decide +kernel
theorem dX5_digest_7 : decode cX5_digest 7 = .ok (.aload_n 0, 1) := by decide +kernel
theorem dX5_digest_8 : decode cX5_digest 8 = .ok (.getfield 19, 3) := by decide +kernel
theorem dX5_digest_11 : decode cX5_digest 11 = .ok (.getfield 200, 3) := by decide +kernel
theorem dX5_digest_14 : decode cX5_digest 14 = .ok (.if_icmp .ge 16, 3) := by decide +kernel
theorem dX5_digest_17 : decode cX5_digest 17 = .ok (.aload_n 0, 1) := by decide +kernel
theorem dX5_digest_18 : decode cX5_digest 18 = .ok (.lload_n 1, 1) := by decide +kernel
theorem dX5_digest_19 : decode cX5_digest 19 = .ok (.iload_n 3, 1) := by decide +kernel
theorem dX5_digest_20 : decode cX5_digest 20 = .ok (.invokevirtual 212, 3) := by decide +kernel
theorem dX5_digest_23 : decode cX5_digest 23 = .ok (.lstore_n 1, 1) := by decide +kernel
theorem dX5_digest_24 : decode cX5_digest 24 = .ok (.iinc 3 1, 3) := by decide +kernel
theorem dX5_digest_27 : decode cX5_digest 27 = .ok (.goto (-21), 3) := by decide +kernel
theorem dX5_digest_30 : decode cX5_digest 30 = .ok (.iconst 0, 1) := by decide +kernel
theorem dX5_digest_31 : decode cX5_digest 31 = .ok (.istore_n 3, 1) := by decide +kernel
theorem dX5_digest_32 : decode cX5_digest 32 = .ok (.iload_n 3, 1) := by decide +kernel
theorem dX5_digest_33 : decode cX5_digest 33 = .ok (.aload_n 0, 1) := by decide +kernel
theorem dX5_digest_34 : decode cX5_digest 34 = .ok (.getfield 19, 3) := by decide +kernel
theorem dX5_digest_37 : decode cX5_digest 37 = .ok (.getfield 77, 3) := by decide +kernel
theorem dX5_digest_40 : decode cX5_digest 40 = .ok (.if_icmp .ge 37, 3) := by decide +kernel
theorem dX5_digest_43 : decode cX5_digest 43 = .ok (.iconst 0, 1) := by decide +kernel
theorem dX5_digest_44 : decode cX5_digest 44 = .ok (.istore 4, 2) := by decide +kernel
theorem dX5_digest_46 : decode cX5_digest 46 = .ok (.iload 4, 2) := by decide +kernel
theorem dX5_digest_48 : decode cX5_digest 48 = .ok (.iconst 4, 1) := by decide +kernel
theorem dX5_digest_49 : decode cX5_digest 49 = .ok (.if_icmp .gt 22, 3) := by decide +kernel
theorem dX5_digest_52 : decode cX5_digest 52 = .ok (.lload_n 1, 1) := by decide +kernel
theorem dX5_digest_53 : decode cX5_digest 53 = .ok (.aload_n 0, 1) := by decide +kernel
theorem dX5_digest_54 : decode cX5_digest 54 = .ok (.iload_n 3, 1) := by decide +kernel
theorem dX5_digest_55 : decode cX5_digest 55 = .ok (.iload 4, 2) := by decide +kernel
theorem dX5_digest_57 : decode cX5_digest 57 = .ok (.invokevirtual 216, 3) := by decide +kernel
theorem dX5_digest_60 : decode cX5_digest 60 = .ok (.i2l, 1) := by decide +kernel
theorem dX5_digest_61 : decode cX5_digest 61 = .ok (.invokestatic 219, 3) := by decide +kernel
theorem dX5_digest_64 : decode cX5_digest 64 = .ok (.lstore_n 1, 1) := by decide +kernel
theorem dX5_digest_65 : decode cX5_digest 65 = .ok (.iinc 4 1, 3) := by decide +kernel
theorem dX5_digest_68 : decode cX5_digest 68 = .ok (.goto (-22), 3) := by decide +kernel
theorem dX5_digest_71 : decode cX5_digest 71 = .ok (.iinc 3 1, 3) := by decide +kernel
theorem dX5_digest_74 : decode cX5_digest 74 = .ok (.goto (-42), 3) := by decide +kernel
theorem dX5_digest_77 : decode cX5_digest 77 = .ok (.aload_n 0, 1) := by decide +kernel
theorem dX5_digest_78 : decode cX5_digest 78 = .ok (.getfield 19, 3) := by decide +kernel
theorem dX5_digest_81 : decode cX5_digest 81 = .ok (.invokevirtual 141, 3) := by decide +kernel
theorem dX5_digest_84 : decode cX5_digest 84 = .ok (.ifCond .eq 9, 3) := by decide +kernel
theorem dX5_digest_87 : decode cX5_digest 87 = .ok (.aload_n 0, 1) := by decide +kernel
theorem dX5_digest_88 : decode cX5_digest 88 = .ok (.lload_n 1, 1) := by decide +kernel
theorem dX5_digest_89 : decode cX5_digest 89 = .ok (.invokevirtual 222, 3) := by decide +kernel
theorem dX5_digest_92 : decode cX5_digest 92 = .ok (.lstore_n 1, 1) := by decide +kernel
theorem dX5_digest_93 : decode cX5_digest 93 = .ok (.iconst 0, 1) := by decide +kernel
theorem dX5_digest_94 : decode cX5_digest 94 = .ok (.istore_n 3, 1) := by decide +kernel
theorem dX5_digest_95 : decode cX5_digest 95 = .ok (.iload_n 3, 1) := by decide +kernel
theorem dX5_digest_96 : decode cX5_digest 96 = .ok (.aload_n 0, 1) := by decide +kernel
theorem dX5_digest_97 : decode cX5_digest 97 = .ok (.getfield 10, 3) := by decide +kernel
theorem dX5_digest_100 : decode cX5_digest 100 = .ok (.getfield 55, 3) := by decide +kernel
theorem dX5_digest_103 : decode cX5_digest 103 = .ok (.if_icmp .ge 24, 3) := by decide +kernel
theorem dX5_digest_106 : decode cX5_digest 106 = .ok (.lload_n 1, 1) := by decide +kernel
theorem dX5_digest_107 : decode cX5_digest 107 = .ok (.aload_n 0, 1) := by decide +kernel
theorem dX5_digest_108 : decode cX5_digest 108 = .ok (.getfield 10, 3) := by decide +kernel
theorem dX5_digest_111 : decode cX5_digest 111 = .ok (.getfield 58, 3) := by decide +kernel
theorem dX5_digest_114 : decode cX5_digest 114 = .ok (.iload_n 3, 1) := by decide +kernel
theorem dX5_digest_115 : decode cX5_digest 115 = .ok (.iaload, 1) := by decide +kernel
theorem dX5_digest_116 : decode cX5_digest 116 = .ok (.i2l, 1) := by decide +kernel
theorem dX5_digest_117 : decode cX5_digest 117 = .ok (.invokestatic 219, 3) := by decide +kernel
theorem dX5_digest_120 : decode cX5_digest 120 = .ok (.lstore_n 1, 1) := by decide +kernel
theorem dX5_digest_121 : decode cX5_digest 121 = .ok (.iinc 3 1, 3) := by decide +kernel
theorem dX5_digest_124 : decode cX5_digest 124 = .ok (.goto (-29), 3) := by decide +kernel
theorem dX5_digest_127 : decode cX5_digest 127 = .ok (.iconst 0, 1) := by decide +kernel
theorem dX5_digest_128 : decode cX5_digest 128 = .ok (.istore_n 3, 1) := by decide +kernel
theorem dX5_digest_129 : decode cX5_digest 129 = .ok (.iload_n 3, 1) := by decide +kernel
theorem dX5_digest_130 : decode cX5_digest 130 = .ok (.bipush 9, 2) := by decide +kernel
theorem dX5_digest_132 : decode cX5_digest 132 = .ok (.if_icmp .gt 20, 3) := by decide +kernel
theorem dX5_digest_135 : decode cX5_digest 135 = .ok (.lload_n 1, 1) := by decide +kernel
theorem dX5_digest_136 : decode cX5_digest 136 = .ok (.aload_n 0, 1) := by decide +kernel
theorem dX5_digest_137 : decode cX5_digest 137 = .ok (.iload_n 3, 1) := by decide +kernel
theorem dX5_digest_138 : decode cX5_digest 138 = .ok (.invokevirtual 226, 3) := by decide +kernel
theorem dX5_digest_141 : decode cX5_digest 141 = .ok (.i2l, 1) := by decide +kernel
theorem dX5_digest_142 : decode cX5_digest 142 = .ok (.invokestatic 219, 3) := by decide +kernel
theorem dX5_digest_145 : decode cX5_digest 145 = .ok (.lstore_n 1, 1) := by decide +kernel
theorem dX5_digest_146 : decode cX5_digest 146 = .ok (.iinc 3 1, 3) := by decide +kernel
theorem dX5_digest_149 : decode cX5_digest 149 = .ok (.goto (-20), 3) := by decide +kernel
theorem dX5_digest_152 : decode cX5_digest 152 = .ok (.lload_n 1, 1) := by decide +kernel
theorem dX5_digest_153 : decode cX5_digest 153 = .ok (.lreturn, 1) := by decide +kernel
set_option maxRecDepth 20000 in
theorem ggX5_digestKeeper_X5_keeper : GoodIn wsX5_digestKeeper wsX5_keeper := goodIn_r _ [5, 6, 7, 8, 9, 10, 11, 12, 13, 14, 15, 16, 17, 18, 19, 20, 21, 22, 23, 24, 25, 26, 27, 28, 29, 30, 4, 31, 32, 33, 34, 35, 36, 37, 38, 39, 40, 41, 42, 43, 44, 45, 46, 47, 48, 49, 50, 51, 52, 53, 54, 55, 56, 72, 73, 74, 75, 76, 77, 78, 79, 80, 81, 82, 83, 84, 85, 86, 87, 88, 89, 90, 91, 92, 93] (by decide +kernel) (by decide +kernel)
set_option maxRecDepth 20000 in
theorem gX5_digestKeeper_X5_keeper : GoodIn wsX5_digestKeeper (wsV RX5 229 RX5 yX5_keeper wsX5_keeper) := goodIn_app (goodIn_of _ (by decide +kernel)) ggX5_digestKeeper_X5_keeper
set_option maxRecDepth 20000 in
theorem ggX5_digestKeeper_X5_digestNumber : GoodIn wsX5_digestKeeper wsX5_digestNumber := goodIn_r _ [59, 60] (by decide +kernel) (by decide +kernel)
set_option maxRecDepth 20000 in
theorem gX5_digestKeeper_X5_digestNumber : GoodIn wsX5_digestKeeper (va_wsS RX5 219 yX5_digestNumber wsX5_digestNumber) := goodIn_app (goodIn_of _ (by decide +kernel)) ggX5_digestKeeper_X5_digestNumber
set_option maxRecDepth 20000 in
theorem ggX5_digestKeeper_X5_keeps : GoodIn wsX5_digestKeeper wsX5_keeps := goodIn_r _ [64, 6, 11, 12, 13, 14, 15, 16, 65, 66, 67, 68, 69, 70, 71, 41, 4, 42, 43, 44, 45, 46, 47, 48, 49, 50, 51, 52, 72, 73, 74, 75, 76, 77, 78, 79, 80, 81, 82, 83, 84] (by decide +kernel) (by decide +kernel)
set_option maxRecDepth 20000 in
theorem gX5_digestKeeper_X5_keeps : GoodIn wsX5_digestKeeper (wsV RX5 232 RX5 yX5_keeps wsX5_keeps) := goodIn_app (goodIn_of _ (by decide +kernel)) ggX5_digestKeeper_X5_keeps
theorem dX5_digestKeeper_0 : decode cX5_digestKeeper 0 = .ok (.lload_n 1, 1) := by decide +kernel
theorem dX5_digestKeeper_1 : decode cX5_digestKeeper 1 = .ok (.lstore 4, 2) := by decide +kernel
theorem dX5_digestKeeper_3 : decode cX5_digestKeeper 3 = .ok (.iconst 0, 1) := by decide +kernel
theorem dX5_digestKeeper_4 : decode cX5_digestKeeper 4 = .ok (.istore 6, 2) := by decide +kernel
theorem dX5_digestKeeper_6 : decode cX5_digestKeeper 6 = .ok (.iload 6, 2) := by decide +kernel
theorem dX5_digestKeeper_8 : decode cX5_digestKeeper 8 = .ok (.bipush 6, 2) := by decide +kernel
theorem dX5_digestKeeper_10 : decode cX5_digestKeeper 10 = .ok (.if_icmp .gt 24, 3) := by decide +kernel
theorem dX5_digestKeeper_13 : decode cX5_digestKeeper 13 = .ok (.lload 4, 2) := by decide +kernel
theorem dX5_digestKeeper_15 : decode cX5_digestKeeper 15 = .ok (.aload_n 0, 1) := by decide +kernel
theorem dX5_digestKeeper_16 : decode cX5_digestKeeper 16 = .ok (.iload_n 3, 1) := by decide +kernel
theorem dX5_digestKeeper_17 : decode cX5_digestKeeper 17 = .ok (.iload 6, 2) := by decide +kernel
theorem dX5_digestKeeper_19 : decode cX5_digestKeeper 19 = .ok (.invokevirtual 229, 3) := by decide +kernel
theorem dX5_digestKeeper_22 : decode cX5_digestKeeper 22 = .ok (.i2l, 1) := by decide +kernel
theorem dX5_digestKeeper_23 : decode cX5_digestKeeper 23 = .ok (.invokestatic 219, 3) := by decide +kernel
theorem dX5_digestKeeper_26 : decode cX5_digestKeeper 26 = .ok (.lstore 4, 2) := by decide +kernel
theorem dX5_digestKeeper_28 : decode cX5_digestKeeper 28 = .ok (.iinc 6 1, 3) := by decide +kernel
theorem dX5_digestKeeper_31 : decode cX5_digestKeeper 31 = .ok (.goto (-25), 3) := by decide +kernel
theorem dX5_digestKeeper_34 : decode cX5_digestKeeper 34 = .ok (.lload 4, 2) := by decide +kernel
theorem dX5_digestKeeper_36 : decode cX5_digestKeeper 36 = .ok (.aload_n 0, 1) := by decide +kernel
theorem dX5_digestKeeper_37 : decode cX5_digestKeeper 37 = .ok (.iload_n 3, 1) := by decide +kernel
theorem dX5_digestKeeper_38 : decode cX5_digestKeeper 38 = .ok (.iconst 0, 1) := by decide +kernel
theorem dX5_digestKeeper_39 : decode cX5_digestKeeper 39 = .ok (.invokevirtual 232, 3) := by decide +kernel
theorem dX5_digestKeeper_42 : decode cX5_digestKeeper 42 = .ok (.i2l, 1) := by decide +kernel
theorem dX5_digestKeeper_43 : decode cX5_digestKeeper 43 = .ok (.invokestatic 219, 3) := by decide +kernel
theorem dX5_digestKeeper_46 : decode cX5_digestKeeper 46 = .ok (.lstore 4, 2) := by decide +kernel
theorem dX5_digestKeeper_48 : decode cX5_digestKeeper 48 = .ok (.lload 4, 2) := by decide +kernel
theorem dX5_digestKeeper_50 : decode cX5_digestKeeper 50 = .ok (.aload_n 0, 1) := by decide +kernel
theorem dX5_digestKeeper_51 : decode cX5_digestKeeper 51 = .ok (.iload_n 3, 1) := by decide +kernel
theorem dX5_digestKeeper_52 : decode cX5_digestKeeper 52 = .ok (.iconst 5, 1) := by decide +kernel
theorem dX5_digestKeeper_53 : decode cX5_digestKeeper 53 = .ok (.invokevirtual 232, 3) := by decide +kernel
theorem dX5_digestKeeper_56 : decode cX5_digestKeeper 56 = .ok (.i2l, 1) := by decide +kernel
theorem dX5_digestKeeper_57 : decode cX5_digestKeeper 57 = .ok (.invokestatic 219, 3) := by decide +kernel
theorem dX5_digestKeeper_60 : decode cX5_digestKeeper 60 = .ok (.lstore 4, 2) := by decide +kernel
theorem dX5_digestKeeper_62 : decode cX5_digestKeeper 62 = .ok (.lload 4, 2) := by decide +kernel
theorem dX5_digestKeeper_64 : decode cX5_digestKeeper 64 = .ok (.aload_n 0, 1) := by decide +kernel
theorem dX5_digestKeeper_65 : decode cX5_digestKeeper 65 = .ok (.iload_n 3, 1) := by decide +kernel
theorem dX5_digestKeeper_66 : decode cX5_digestKeeper 66 = .ok (.bipush 9, 2) := by decide +kernel
theorem dX5_digestKeeper_68 : decode cX5_digestKeeper 68 = .ok (.invokevirtual 232, 3) := by decide +kernel
theorem dX5_digestKeeper_71 : decode cX5_digestKeeper 71 = .ok (.i2l, 1) := by decide +kernel
theorem dX5_digestKeeper_72 : decode cX5_digestKeeper 72 = .ok (.invokestatic 219, 3) := by decide +kernel
theorem dX5_digestKeeper_75 : decode cX5_digestKeeper 75 = .ok (.lreturn, 1) := by decide +kernel
set_option maxRecDepth 20000 in
theorem ggX5_digestWhatWouldBe_X5_odds : GoodIn wsX5_digestWhatWouldBe wsX5_odds := goodIn_r _ [10, 11, 2, 12, 13, 3, 14, 15, 16, 17, 18, 19, 20, 21, 22, 23, 24, 25, 26, 27, 28, 29, 30, 31, 32, 33, 34, 9, 35, 36, 37, 38, 39, 40, 41, 42, 43, 44, 45, 46, 47, 48, 102, 103, 104, 105, 106, 107, 108, 109, 116, 117, 118, 119, 120, 121, 122, 123, 124, 125, 126, 127, 128, 129] (by decide +kernel) (by decide +kernel)
set_option maxRecDepth 20000 in
theorem gX5_digestWhatWouldBe_X5_odds : GoodIn wsX5_digestWhatWouldBe (wsV RX5 235 RX5 yX5_odds wsX5_odds) := goodIn_app (goodIn_of _ (by decide +kernel)) ggX5_digestWhatWouldBe_X5_odds
set_option maxRecDepth 20000 in
theorem ggX5_digestWhatWouldBe_X5_digestNumber : GoodIn wsX5_digestWhatWouldBe wsX5_digestNumber := goodIn_r _ [51, 52] (by decide +kernel) (by decide +kernel)
set_option maxRecDepth 20000 in
theorem gX5_digestWhatWouldBe_X5_digestNumber : GoodIn wsX5_digestWhatWouldBe (va_wsS RX5 219 yX5_digestNumber wsX5_digestNumber) := goodIn_app (goodIn_of _ (by decide +kernel)) ggX5_digestWhatWouldBe_X5_digestNumber
set_option maxRecDepth 20000 in
theorem ggX5_digestWhatWouldBe_X3_solve : GoodIn wsX5_digestWhatWouldBe wsX3_solve := goodIn_r _ [57, 58, 59, 60, 61, 62, 63, 31, 32, 21, 33, 23, 64, 65, 66, 67, 68, 69, 70, 71, 72, 73, 74, 75, 76, 77, 78, 79, 80, 81, 82, 83, 84, 85, 86, 87, 88, 56, 89, 90, 91, 92, 41, 38, 42, 93, 25, 26, 27, 28, 29, 30, 34, 9, 35, 36, 37, 39, 40, 43, 44, 45, 94, 95, 96, 97, 98, 99, 100, 101, 110, 111, 112, 113, 114, 115, 121, 122, 123, 124, 125, 126, 127, 128, 129, 116, 117, 118, 119, 120] (by decide +kernel) (by decide +kernel)
set_option maxRecDepth 20000 in
theorem gX5_digestWhatWouldBe_X3_solve : GoodIn wsX5_digestWhatWouldBe (wsV RX5 160 RX3 yX3_solve wsX3_solve) := goodIn_app (goodIn_of _ (by decide +kernel)) ggX5_digestWhatWouldBe_X3_solve
theorem dX5_digestWhatWouldBe_0 : decode cX5_digestWhatWouldBe 0 = .ok (.lload_n 1, 1) := by decide +kernel
theorem dX5_digestWhatWouldBe_1 : decode cX5_digestWhatWouldBe 1 = .ok (.aload_n 0, 1) := by decide +kernel
theorem dX5_digestWhatWouldBe_2 : decode cX5_digestWhatWouldBe 2 = .ok (.iconst 2, 1) := by decide +kernel
theorem dX5_digestWhatWouldBe_3 : decode cX5_digestWhatWouldBe 3 = .ok (.iconst 0, 1) := by decide +kernel
theorem dX5_digestWhatWouldBe_4 : decode cX5_digestWhatWouldBe 4 = .ok (.invokevirtual 235, 3) := by decide +kernel
theorem dX5_digestWhatWouldBe_7 : decode cX5_digestWhatWouldBe 7 = .ok (.invokestatic 219, 3) := by decide +kernel
theorem dX5_digestWhatWouldBe_10 : decode cX5_digestWhatWouldBe 10 = .ok (.lstore_n 3, 1) := by decide +kernel
theorem dX5_digestWhatWouldBe_11 : decode cX5_digestWhatWouldBe 11 = .ok (.lload_n 3, 1) := by decide +kernel
theorem dX5_digestWhatWouldBe_12 : decode cX5_digestWhatWouldBe 12 = .ok (.aload_n 0, 1) := by decide +kernel
theorem dX5_digestWhatWouldBe_13 : decode cX5_digestWhatWouldBe 13 = .ok (.iconst 2, 1) := by decide +kernel
theorem dX5_digestWhatWouldBe_14 : decode cX5_digestWhatWouldBe 14 = .ok (.iconst 1, 1) := by decide +kernel
theorem dX5_digestWhatWouldBe_15 : decode cX5_digestWhatWouldBe 15 = .ok (.invokevirtual 235, 3) := by decide +kernel
theorem dX5_digestWhatWouldBe_18 : decode cX5_digestWhatWouldBe 18 = .ok (.invokestatic 219, 3) := by decide +kernel
theorem dX5_digestWhatWouldBe_21 : decode cX5_digestWhatWouldBe 21 = .ok (.lstore_n 3, 1) := by decide +kernel
theorem dX5_digestWhatWouldBe_22 : decode cX5_digestWhatWouldBe 22 = .ok (.aload_n 0, 1) := by decide +kernel
theorem dX5_digestWhatWouldBe_23 : decode cX5_digestWhatWouldBe 23 = .ok (.getfield 36, 3) := by decide +kernel
theorem dX5_digestWhatWouldBe_26 : decode cX5_digestWhatWouldBe 26 = .ok (.aload_n 0, 1) := by decide +kernel
theorem dX5_digestWhatWouldBe_27 : decode cX5_digestWhatWouldBe 27 = .ok (.getfield 19, 3) := by decide +kernel
theorem dX5_digestWhatWouldBe_30 : decode cX5_digestWhatWouldBe 30 = .ok (.aload_n 0, 1) := by decide +kernel
theorem dX5_digestWhatWouldBe_31 : decode cX5_digestWhatWouldBe 31 = .ok (.getfield 26, 3) := by decide +kernel
theorem dX5_digestWhatWouldBe_34 : decode cX5_digestWhatWouldBe 34 = .ok (.invokevirtual 160, 3) := by decide +kernel
theorem dX5_digestWhatWouldBe_37 : decode cX5_digestWhatWouldBe 37 = .ok (.lload_n 3, 1) := by decide +kernel
theorem dX5_digestWhatWouldBe_38 : decode cX5_digestWhatWouldBe 38 = .ok (.aload_n 0, 1) := by decide +kernel
theorem dX5_digestWhatWouldBe_39 : decode cX5_digestWhatWouldBe 39 = .ok (.getfield 36, 3) := by decide +kernel
theorem dX5_digestWhatWouldBe_42 : decode cX5_digestWhatWouldBe 42 = .ok (.getfield 164, 3) := by decide +kernel
theorem dX5_digestWhatWouldBe_45 : decode cX5_digestWhatWouldBe 45 = .ok (.i2l, 1) := by decide +kernel
theorem dX5_digestWhatWouldBe_46 : decode cX5_digestWhatWouldBe 46 = .ok (.invokestatic 219, 3) := by decide +kernel
theorem dX5_digestWhatWouldBe_49 : decode cX5_digestWhatWouldBe 49 = .ok (.lstore_n 3, 1) := by decide +kernel
theorem dX5_digestWhatWouldBe_50 : decode cX5_digestWhatWouldBe 50 = .ok (.iconst 0, 1) := by decide +kernel
theorem dX5_digestWhatWouldBe_51 : decode cX5_digestWhatWouldBe 51 = .ok (.istore 5, 2) := by decide +kernel
theorem dX5_digestWhatWouldBe_53 : decode cX5_digestWhatWouldBe 53 = .ok (.iload 5, 2) := by decide +kernel
theorem dX5_digestWhatWouldBe_55 : decode cX5_digestWhatWouldBe 55 = .ok (.iconst 5, 1) := by decide +kernel
theorem dX5_digestWhatWouldBe_56 : decode cX5_digestWhatWouldBe 56 = .ok (.if_icmp .ge 25, 3) := by decide +kernel
theorem dX5_digestWhatWouldBe_59 : decode cX5_digestWhatWouldBe 59 = .ok (.lload_n 3, 1) := by decide +kernel
theorem dX5_digestWhatWouldBe_60 : decode cX5_digestWhatWouldBe 60 = .ok (.aload_n 0, 1) := by decide +kernel
theorem dX5_digestWhatWouldBe_61 : decode cX5_digestWhatWouldBe 61 = .ok (.getfield 36, 3) := by decide +kernel
theorem dX5_digestWhatWouldBe_64 : decode cX5_digestWhatWouldBe 64 = .ok (.getfield 167, 3) := by decide +kernel
theorem dX5_digestWhatWouldBe_67 : decode cX5_digestWhatWouldBe 67 = .ok (.iload 5, 2) := by decide +kernel
theorem dX5_digestWhatWouldBe_69 : decode cX5_digestWhatWouldBe 69 = .ok (.iaload, 1) := by decide +kernel
theorem dX5_digestWhatWouldBe_70 : decode cX5_digestWhatWouldBe 70 = .ok (.i2l, 1) := by decide +kernel
theorem dX5_digestWhatWouldBe_71 : decode cX5_digestWhatWouldBe 71 = .ok (.invokestatic 219, 3) := by decide +kernel
theorem dX5_digestWhatWouldBe_74 : decode cX5_digestWhatWouldBe 74 = .ok (.lstore_n 3, 1) := by decide +kernel
theorem dX5_digestWhatWouldBe_75 : decode cX5_digestWhatWouldBe 75 = .ok (.iinc 5 1, 3) := by decide +kernel
theorem dX5_digestWhatWouldBe_78 : decode cX5_digestWhatWouldBe 78 = .ok (.goto (-25), 3) := by decide +kernel
theorem dX5_digestWhatWouldBe_81 : decode cX5_digestWhatWouldBe 81 = .ok (.lload_n 3, 1) := by decide +kernel
theorem dX5_digestWhatWouldBe_82 : decode cX5_digestWhatWouldBe 82 = .ok (.lreturn, 1) := by decide +kernel
theorem dX5_digestNumber_0 : decode cX5_digestNumber 0 = .ok (.ldc2_w 239, 3) := by decide +kernel
theorem dX5_digestNumber_3 : decode cX5_digestNumber 3 = .ok (.lload_n 0, 1) := by decide +kernel
theorem dX5_digestNumber_4 : decode cX5_digestNumber 4 = .ok (.lmul, 1) := by decide +kernel
theorem dX5_digestNumber_5 : decode cX5_digestNumber 5 = .ok (.lload_n 2, 1) := by decide +kernel
theorem dX5_digestNumber_6 : decode cX5_digestNumber 6 = .ok (.ladd, 1) := by decide +kernel
theorem dX5_digestNumber_7 : decode cX5_digestNumber 7 = .ok (.lreturn, 1) := by decide +kernel
set_option maxRecDepth 20000 in
theorem ggX5_possibleFaiths_X5_likelihood : GoodIn wsX5_possibleFaiths wsX5_likelihood := goodIn_r _ [5, 6, 7, 8, 9, 10, 11, 12, 13, 14, 4, 15, 16, 17, 18, 19, 20, 21, 22, 23, 24, 25, 26, 27, 28, 29, 30, 31, 32, 33, 34, 35, 36, 37, 38, 39, 40, 41, 42, 43, 44, 45, 46, 47] (by decide +kernel) (by decide +kernel)
set_option maxRecDepth 20000 in
theorem gX5_possibleFaiths_X5_likelihood : GoodIn wsX5_possibleFaiths (wsV RX5 241 RX5 yX5_likelihood wsX5_likelihood) := goodIn_app (goodIn_of _ (by decide +kernel)) ggX5_possibleFaiths_X5_likelihood
theorem dX5_possibleFaiths_0 : decode cX5_possibleFaiths 0 = .ok (.iconst 0, 1) := by decide +kernel
theorem dX5_possibleFaiths_1 : decode cX5_possibleFaiths 1 = .ok (.istore_n 2, 1) := by decide +kernel
theorem dX5_possibleFaiths_2 : decode cX5_possibleFaiths 2 = .ok (.iconst 0, 1) := by decide +kernel
theorem dX5_possibleFaiths_3 : decode cX5_possibleFaiths 3 = .ok (.istore_n 3, 1) := by decide +kernel
theorem dX5_possibleFaiths_4 : decode cX5_possibleFaiths 4 = .ok (.iload_n 3, 1) := by decide +kernel
theorem dX5_possibleFaiths_5 : decode cX5_possibleFaiths 5 = .ok (.bipush 9, 2) := by decide +kernel
theorem dX5_possibleFaiths_7 : decode cX5_possibleFaiths 7 = .ok (.if_icmp .gt 26, 3) := by decide +kernel
theorem dX5_possibleFaiths_10 : decode cX5_possibleFaiths 10 = .ok (.aload_n 0, 1) := by decide +kernel
theorem dX5_possibleFaiths_11 : decode cX5_possibleFaiths 11 = .ok (.iload_n 1, 1) := by decide +kernel
theorem dX5_possibleFaiths_12 : decode cX5_possibleFaiths 12 = .ok (.iload_n 3, 1) := by decide +kernel
theorem dX5_possibleFaiths_13 : decode cX5_possibleFaiths 13 = .ok (.invokevirtual 241, 3) := by decide +kernel
theorem dX5_possibleFaiths_16 : decode cX5_possibleFaiths 16 = .ok (.lconst 0, 1) := by decide +kernel
theorem dX5_possibleFaiths_17 : decode cX5_possibleFaiths 17 = .ok (.lcmp, 1) := by decide +kernel
theorem dX5_possibleFaiths_18 : decode cX5_possibleFaiths 18 = .ok (.ifCond .le 9, 3) := by decide +kernel
theorem dX5_possibleFaiths_21 : decode cX5_possibleFaiths 21 = .ok (.iload_n 2, 1) := by decide +kernel
theorem dX5_possibleFaiths_22 : decode cX5_possibleFaiths 22 = .ok (.iconst 1, 1) := by decide +kernel
theorem dX5_possibleFaiths_23 : decode cX5_possibleFaiths 23 = .ok (.iload_n 3, 1) := by decide +kernel
theorem dX5_possibleFaiths_24 : decode cX5_possibleFaiths 24 = .ok (.ishl, 1) := by decide +kernel
theorem dX5_possibleFaiths_25 : decode cX5_possibleFaiths 25 = .ok (.ior, 1) := by decide +kernel
theorem dX5_possibleFaiths_26 : decode cX5_possibleFaiths 26 = .ok (.istore_n 2, 1) := by decide +kernel
theorem dX5_possibleFaiths_27 : decode cX5_possibleFaiths 27 = .ok (.iinc 3 1, 3) := by decide +kernel
theorem dX5_possibleFaiths_30 : decode cX5_possibleFaiths 30 = .ok (.goto (-26), 3) := by decide +kernel
theorem dX5_possibleFaiths_33 : decode cX5_possibleFaiths 33 = .ok (.iload_n 2, 1) := by decide +kernel
theorem dX5_possibleFaiths_34 : decode cX5_possibleFaiths 34 = .ok (.ireturn, 1) := by decide +kernel
set_option maxRecDepth 20000 in
theorem ggX5_likelyFaith_X5_likelihood : GoodIn wsX5_likelyFaith wsX5_likelihood := goodIn_r _ [5, 6, 7, 8, 9, 10, 11, 12, 13, 14, 4, 15, 16, 17, 18, 19, 20, 21, 22, 23, 24, 25, 26, 27, 28, 29, 30, 31, 32, 33, 34, 35, 36, 37, 38, 39, 40, 41, 42, 43, 44, 45, 46, 47] (by decide +kernel) (by decide +kernel)
set_option maxRecDepth 20000 in
theorem gX5_likelyFaith_X5_likelihood : GoodIn wsX5_likelyFaith (wsV RX5 241 RX5 yX5_likelihood wsX5_likelihood) := goodIn_app (goodIn_of _ (by decide +kernel)) ggX5_likelyFaith_X5_likelihood
theorem dX5_likelyFaith_0 : decode cX5_likelyFaith 0 = .ok (.iconst (-1), 1) := by decide +kernel
theorem dX5_likelyFaith_1 : decode cX5_likelyFaith 1 = .ok (.istore_n 2, 1) := by decide +kernel
theorem dX5_likelyFaith_2 : decode cX5_likelyFaith 2 = .ok (.lconst 0, 1) := by decide +kernel
theorem dX5_likelyFaith_3 : decode cX5_likelyFaith 3 = .ok (.lstore_n 3, 1) := by decide +kernel
theorem dX5_likelyFaith_4 : decode cX5_likelyFaith 4 = .ok (.iconst 0, 1) := by decide +kernel
theorem dX5_likelyFaith_5 : decode cX5_likelyFaith 5 = .ok (.istore 5, 2) := by decide +kernel
theorem dX5_likelyFaith_7 : decode cX5_likelyFaith 7 = .ok (.iload 5, 2) := by decide +kernel
theorem dX5_likelyFaith_9 : decode cX5_likelyFaith 9 = .ok (.bipush 9, 2) := by decide +kernel
theorem dX5_likelyFaith_11 : decode cX5_likelyFaith 11 = .ok (.if_icmp .gt 31, 3) := by decide +kernel
theorem dX5_likelyFaith_14 : decode cX5_likelyFaith 14 = .ok (.aload_n 0, 1) := by decide +kernel
theorem dX5_likelyFaith_15 : decode cX5_likelyFaith 15 = .ok (.iload_n 1, 1) := by decide +kernel
theorem dX5_likelyFaith_16 : decode cX5_likelyFaith 16 = .ok (.iload 5, 2) := by decide +kernel
theorem dX5_likelyFaith_18 : decode cX5_likelyFaith 18 = .ok (.invokevirtual 241, 3) := by decide +kernel
theorem dX5_likelyFaith_21 : decode cX5_likelyFaith 21 = .ok (.lstore 6, 2) := by decide +kernel
theorem dX5_likelyFaith_23 : decode cX5_likelyFaith 23 = .ok (.lload 6, 2) := by decide +kernel
theorem dX5_likelyFaith_25 : decode cX5_likelyFaith 25 = .ok (.lload_n 3, 1) := by decide +kernel
theorem dX5_likelyFaith_26 : decode cX5_likelyFaith 26 = .ok (.lcmp, 1) := by decide +kernel
theorem dX5_likelyFaith_27 : decode cX5_likelyFaith 27 = .ok (.ifCond .le 9, 3) := by decide +kernel
theorem dX5_likelyFaith_30 : decode cX5_likelyFaith 30 = .ok (.lload 6, 2) := by decide +kernel
theorem dX5_likelyFaith_32 : decode cX5_likelyFaith 32 = .ok (.lstore_n 3, 1) := by decide +kernel
theorem dX5_likelyFaith_33 : decode cX5_likelyFaith 33 = .ok (.iload 5, 2) := by decide +kernel
theorem dX5_likelyFaith_35 : decode cX5_likelyFaith 35 = .ok (.istore_n 2, 1) := by decide +kernel
theorem dX5_likelyFaith_36 : decode cX5_likelyFaith 36 = .ok (.iinc 5 1, 3) := by decide +kernel
theorem dX5_likelyFaith_39 : decode cX5_likelyFaith 39 = .ok (.goto (-32), 3) := by decide +kernel
theorem dX5_likelyFaith_42 : decode cX5_likelyFaith 42 = .ok (.iload_n 2, 1) := by decide +kernel
theorem dX5_likelyFaith_43 : decode cX5_likelyFaith 43 = .ok (.ireturn, 1) := by decide +kernel
set_option maxRecDepth 20000 in
theorem ggX5_likelihood_X5_yearsKeptBy : GoodIn wsX5_likelihood wsX5_yearsKeptBy := goodIn_r _ [11, 12, 13, 14, 15, 16, 17, 18, 19, 20, 10, 21] (by decide +kernel) (by decide +kernel)
set_option maxRecDepth 20000 in
theorem gX5_likelihood_X5_yearsKeptBy : GoodIn wsX5_likelihood (va_wsS RX5 244 yX5_yearsKeptBy wsX5_yearsKeptBy) := goodIn_app (goodIn_of _ (by decide +kernel)) ggX5_likelihood_X5_yearsKeptBy
theorem dX5_likelihood_0 : decode cX5_likelihood 0 = .ok (.lconst 1, 1) := by decide +kernel
theorem dX5_likelihood_1 : decode cX5_likelihood 1 = .ok (.lstore_n 3, 1) := by decide +kernel
theorem dX5_likelihood_2 : decode cX5_likelihood 2 = .ok (.iconst 0, 1) := by decide +kernel
theorem dX5_likelihood_3 : decode cX5_likelihood 3 = .ok (.istore 5, 2) := by decide +kernel
theorem dX5_likelihood_5 : decode cX5_likelihood 5 = .ok (.iload 5, 2) := by decide +kernel
theorem dX5_likelihood_7 : decode cX5_likelihood 7 = .ok (.aload_n 0, 1) := by decide +kernel
theorem dX5_likelihood_8 : decode cX5_likelihood 8 = .ok (.getfield 26, 3) := by decide +kernel
theorem dX5_likelihood_11 : decode cX5_likelihood 11 = .ok (.getfield 170, 3) := by decide +kernel
theorem dX5_likelihood_14 : decode cX5_likelihood 14 = .ok (.if_icmp .ge 76, 3) := by decide +kernel
theorem dX5_likelihood_17 : decode cX5_likelihood 17 = .ok (.aload_n 0, 1) := by decide +kernel
theorem dX5_likelihood_18 : decode cX5_likelihood 18 = .ok (.getfield 26, 3) := by decide +kernel
theorem dX5_likelihood_21 : decode cX5_likelihood 21 = .ok (.getfield 173, 3) := by decide +kernel
theorem dX5_likelihood_24 : decode cX5_likelihood 24 = .ok (.iload 5, 2) := by decide +kernel
theorem dX5_likelihood_26 : decode cX5_likelihood 26 = .ok (.iaload, 1) := by decide +kernel
theorem dX5_likelihood_27 : decode cX5_likelihood 27 = .ok (.iload_n 1, 1) := by decide +kernel
theorem dX5_likelihood_28 : decode cX5_likelihood 28 = .ok (.if_icmp .ne 56, 3) := by decide +kernel
theorem dX5_likelihood_31 : decode cX5_likelihood 31 = .ok (.aload_n 0, 1) := by decide +kernel
theorem dX5_likelihood_32 : decode cX5_likelihood 32 = .ok (.getfield 19, 3) := by decide +kernel
theorem dX5_likelihood_35 : decode cX5_likelihood 35 = .ok (.getfield 84, 3) := by decide +kernel
theorem dX5_likelihood_38 : decode cX5_likelihood 38 = .ok (.iload_n 1, 1) := by decide +kernel
theorem dX5_likelihood_39 : decode cX5_likelihood 39 = .ok (.iaload, 1) := by decide +kernel
theorem dX5_likelihood_40 : decode cX5_likelihood 40 = .ok (.iload_n 2, 1) := by decide +kernel
theorem dX5_likelihood_41 : decode cX5_likelihood 41 = .ok (.aload_n 0, 1) := by decide +kernel
theorem dX5_likelihood_42 : decode cX5_likelihood 42 = .ok (.getfield 26, 3) := by decide +kernel
theorem dX5_likelihood_45 : decode cX5_likelihood 45 = .ok (.getfield 176, 3) := by decide +kernel
theorem dX5_likelihood_48 : decode cX5_likelihood 48 = .ok (.iload 5, 2) := by decide +kernel
theorem dX5_likelihood_50 : decode cX5_likelihood 50 = .ok (.iaload, 1) := by decide +kernel
theorem dX5_likelihood_51 : decode cX5_likelihood 51 = .ok (.invokestatic 244, 3) := by decide +kernel
theorem dX5_likelihood_54 : decode cX5_likelihood 54 = .ok (.istore 6, 2) := by decide +kernel
theorem dX5_likelihood_56 : decode cX5_likelihood 56 = .ok (.lload_n 3, 1) := by decide +kernel
theorem dX5_likelihood_57 : decode cX5_likelihood 57 = .ok (.aload_n 0, 1) := by decide +kernel
theorem dX5_likelihood_58 : decode cX5_likelihood 58 = .ok (.getfield 26, 3) := by decide +kernel
theorem dX5_likelihood_61 : decode cX5_likelihood 61 = .ok (.getfield 179, 3) := by decide +kernel
theorem dX5_likelihood_64 : decode cX5_likelihood 64 = .ok (.iload 5, 2) := by decide +kernel
theorem dX5_likelihood_66 : decode cX5_likelihood 66 = .ok (.baload, 1) := by decide +kernel
theorem dX5_likelihood_67 : decode cX5_likelihood 67 = .ok (.ifCond .eq 9, 3) := by decide +kernel
theorem dX5_likelihood_70 : decode cX5_likelihood 70 = .ok (.iload 6, 2) := by decide +kernel
theorem dX5_likelihood_72 : decode cX5_likelihood 72 = .ok (.i2l, 1) := by decide +kernel
theorem dX5_likelihood_73 : decode cX5_likelihood 73 = .ok (.goto 9, 3) := by decide +kernel
theorem dX5_likelihood_76 : decode cX5_likelihood 76 = .ok (.bipush 10, 2) := by decide +kernel
theorem dX5_likelihood_78 : decode cX5_likelihood 78 = .ok (.iload 6, 2) := by decide +kernel
theorem dX5_likelihood_80 : decode cX5_likelihood 80 = .ok (.isub, 1) := by decide +kernel
theorem dX5_likelihood_81 : decode cX5_likelihood 81 = .ok (.i2l, 1) := by decide +kernel
theorem dX5_likelihood_82 : decode cX5_likelihood 82 = .ok (.lmul, 1) := by decide +kernel
theorem dX5_likelihood_83 : decode cX5_likelihood 83 = .ok (.lstore_n 3, 1) := by decide +kernel
theorem dX5_likelihood_84 : decode cX5_likelihood 84 = .ok (.iinc 5 1, 3) := by decide +kernel
theorem dX5_likelihood_87 : decode cX5_likelihood 87 = .ok (.goto (-82), 3) := by decide +kernel
theorem dX5_likelihood_90 : decode cX5_likelihood 90 = .ok (.lload_n 3, 1) := by decide +kernel
theorem dX5_likelihood_91 : decode cX5_likelihood 91 = .ok (.lreturn, 1) := by decide +kernel
theorem dX5_isOfKind_0 : decode cX5_isOfKind 0 = .ok (.iload_n 1, 1) := by decide +kernel
theorem dX5_isOfKind_1 : decode cX5_isOfKind 1 = .ok (.ifCond .eq 18, 3) := by decide +kernel
theorem dX5_isOfKind_4 : decode cX5_isOfKind 4 = .ok (.iload_n 0, 1) := by decide +kernel
theorem dX5_isOfKind_5 : decode cX5_isOfKind 5 = .ok (.iload_n 1, 1) := by decide +kernel
theorem dX5_isOfKind_6 : decode cX5_isOfKind 6 = .ok (.if_icmp .eq 13, 3) := by decide +kernel
theorem dX5_isOfKind_9 : decode cX5_isOfKind 9 = .ok (.iload_n 0, 1) := by decide +kernel
theorem dX5_isOfKind_10 : decode cX5_isOfKind 10 = .ok (.iconst 4, 1) := by decide +kernel
theorem dX5_isOfKind_11 : decode cX5_isOfKind 11 = .ok (.if_icmp .ne 12, 3) := by decide +kernel
theorem dX5_isOfKind_14 : decode cX5_isOfKind 14 = .ok (.iload_n 1, 1) := by decide +kernel
theorem dX5_isOfKind_15 : decode cX5_isOfKind 15 = .ok (.iconst 1, 1) := by decide +kernel
theorem dX5_isOfKind_16 : decode cX5_isOfKind 16 = .ok (.if_icmp .ne 7, 3) := by decide +kernel
theorem dX5_isOfKind_19 : decode cX5_isOfKind 19 = .ok (.iconst 1, 1) := by decide +kernel
theorem dX5_isOfKind_20 : decode cX5_isOfKind 20 = .ok (.goto 4, 3) := by decide +kernel
theorem dX5_isOfKind_23 : decode cX5_isOfKind 23 = .ok (.iconst 0, 1) := by decide +kernel
theorem dX5_isOfKind_24 : decode cX5_isOfKind 24 = .ok (.ireturn, 1) := by decide +kernel
set_option maxRecDepth 20000 in
theorem ggX5_yearsKeptBy_X5_isOfKind : GoodIn wsX5_yearsKeptBy wsX5_isOfKind := goodIn_r _ [11] (by decide +kernel) (by decide +kernel)
set_option maxRecDepth 20000 in
theorem gX5_yearsKeptBy_X5_isOfKind : GoodIn wsX5_yearsKeptBy (va_wsS RX5 106 yX5_isOfKind wsX5_isOfKind) := goodIn_app (goodIn_of _ (by decide +kernel)) ggX5_yearsKeptBy_X5_isOfKind
theorem dX5_yearsKeptBy_0 : decode cX5_yearsKeptBy 0 = .ok (.iload_n 0, 1) := by decide +kernel
theorem dX5_yearsKeptBy_1 : decode cX5_yearsKeptBy 1 = .ok (.iconst 4, 1) := by decide +kernel
theorem dX5_yearsKeptBy_2 : decode cX5_yearsKeptBy 2 = .ok (.invokestatic 106, 3) := by decide +kernel
theorem dX5_yearsKeptBy_5 : decode cX5_yearsKeptBy 5 = .ok (.ifCond .eq 9, 3) := by decide +kernel
theorem dX5_yearsKeptBy_8 : decode cX5_yearsKeptBy 8 = .ok (.iload_n 1, 1) := by decide +kernel
theorem dX5_yearsKeptBy_9 : decode cX5_yearsKeptBy 9 = .ok (.iconst 2, 1) := by decide +kernel
theorem dX5_yearsKeptBy_10 : decode cX5_yearsKeptBy 10 = .ok (.iadd, 1) := by decide +kernel
theorem dX5_yearsKeptBy_11 : decode cX5_yearsKeptBy 11 = .ok (.goto 4, 3) := by decide +kernel
theorem dX5_yearsKeptBy_14 : decode cX5_yearsKeptBy 14 = .ok (.iload_n 1, 1) := by decide +kernel
theorem dX5_yearsKeptBy_15 : decode cX5_yearsKeptBy 15 = .ok (.istore_n 3, 1) := by decide +kernel
theorem dX5_yearsKeptBy_16 : decode cX5_yearsKeptBy 16 = .ok (.iload_n 0, 1) := by decide +kernel
theorem dX5_yearsKeptBy_17 : decode cX5_yearsKeptBy 17 = .ok (.iconst 3, 1) := by decide +kernel
theorem dX5_yearsKeptBy_18 : decode cX5_yearsKeptBy 18 = .ok (.invokestatic 106, 3) := by decide +kernel
theorem dX5_yearsKeptBy_21 : decode cX5_yearsKeptBy 21 = .ok (.ifCond .eq 9, 3) := by decide +kernel
theorem dX5_yearsKeptBy_24 : decode cX5_yearsKeptBy 24 = .ok (.iconst 2, 1) := by decide +kernel
theorem dX5_yearsKeptBy_25 : decode cX5_yearsKeptBy 25 = .ok (.iload_n 2, 1) := by decide +kernel
theorem dX5_yearsKeptBy_26 : decode cX5_yearsKeptBy 26 = .ok (.imul, 1) := by decide +kernel
theorem dX5_yearsKeptBy_27 : decode cX5_yearsKeptBy 27 = .ok (.goto 4, 3) := by decide +kernel
theorem dX5_yearsKeptBy_30 : decode cX5_yearsKeptBy 30 = .ok (.iload_n 2, 1) := by decide +kernel
theorem dX5_yearsKeptBy_31 : decode cX5_yearsKeptBy 31 = .ok (.istore 4, 2) := by decide +kernel
theorem dX5_yearsKeptBy_33 : decode cX5_yearsKeptBy 33 = .ok (.iload_n 0, 1) := by decide +kernel
theorem dX5_yearsKeptBy_34 : decode cX5_yearsKeptBy 34 = .ok (.iconst 1, 1) := by decide +kernel
theorem dX5_yearsKeptBy_35 : decode cX5_yearsKeptBy 35 = .ok (.invokestatic 106, 3) := by decide +kernel
theorem dX5_yearsKeptBy_38 : decode cX5_yearsKeptBy 38 = .ok (.ifCond .eq 7, 3) := by decide +kernel
theorem dX5_yearsKeptBy_41 : decode cX5_yearsKeptBy 41 = .ok (.iconst 3, 1) := by decide +kernel
theorem dX5_yearsKeptBy_42 : decode cX5_yearsKeptBy 42 = .ok (.goto 4, 3) := by decide +kernel
theorem dX5_yearsKeptBy_45 : decode cX5_yearsKeptBy 45 = .ok (.iconst 0, 1) := by decide +kernel
theorem dX5_yearsKeptBy_46 : decode cX5_yearsKeptBy 46 = .ok (.istore 5, 2) := by decide +kernel
theorem dX5_yearsKeptBy_48 : decode cX5_yearsKeptBy 48 = .ok (.iload 5, 2) := by decide +kernel
theorem dX5_yearsKeptBy_50 : decode cX5_yearsKeptBy 50 = .ok (.bipush 10, 2) := by decide +kernel
theorem dX5_yearsKeptBy_52 : decode cX5_yearsKeptBy 52 = .ok (.iload_n 3, 1) := by decide +kernel
theorem dX5_yearsKeptBy_53 : decode cX5_yearsKeptBy 53 = .ok (.iconst 5, 1) := by decide +kernel
theorem dX5_yearsKeptBy_54 : decode cX5_yearsKeptBy 54 = .ok (.iadd, 1) := by decide +kernel
theorem dX5_yearsKeptBy_55 : decode cX5_yearsKeptBy 55 = .ok (.iload 4, 2) := by decide +kernel
theorem dX5_yearsKeptBy_57 : decode cX5_yearsKeptBy 57 = .ok (.isub, 1) := by decide +kernel
theorem dX5_yearsKeptBy_58 : decode cX5_yearsKeptBy 58 = .ok (.invokestatic 248, 3) := by decide +kernel
theorem dX5_yearsKeptBy_61 : decode cX5_yearsKeptBy 61 = .ok (.invokestatic 253, 3) := by decide +kernel
theorem dX5_yearsKeptBy_64 : decode cX5_yearsKeptBy 64 = .ok (.ireturn, 1) := by decide +kernel
theorem dX5_sum_0 : decode cX5_sum 0 = .ok (.iconst 0, 1) := by decide +kernel
theorem dX5_sum_1 : decode cX5_sum 1 = .ok (.istore_n 1, 1) := by decide +kernel
theorem dX5_sum_2 : decode cX5_sum 2 = .ok (.aload_n 0, 1) := by decide +kernel
theorem dX5_sum_3 : decode cX5_sum 3 = .ok (.astore_n 2, 1) := by decide +kernel
theorem dX5_sum_4 : decode cX5_sum 4 = .ok (.aload_n 2, 1) := by decide +kernel
theorem dX5_sum_5 : decode cX5_sum 5 = .ok (.arraylength, 1) := by decide +kernel
theorem dX5_sum_6 : decode cX5_sum 6 = .ok (.istore_n 3, 1) := by decide +kernel
theorem dX5_sum_7 : decode cX5_sum 7 = .ok (.iconst 0, 1) := by decide +kernel
theorem dX5_sum_8 : decode cX5_sum 8 = .ok (.istore 4, 2) := by decide +kernel
theorem dX5_sum_10 : decode cX5_sum 10 = .ok (.iload 4, 2) := by decide +kernel
theorem dX5_sum_12 : decode cX5_sum 12 = .ok (.iload_n 3, 1) := by decide +kernel
theorem dX5_sum_13 : decode cX5_sum 13 = .ok (.if_icmp .ge 20, 3) := by decide +kernel
theorem dX5_sum_16 : decode cX5_sum 16 = .ok (.aload_n 2, 1) := by decide +kernel
theorem dX5_sum_17 : decode cX5_sum 17 = .ok (.iload 4, 2) := by decide +kernel
theorem dX5_sum_19 : decode cX5_sum 19 = .ok (.iaload, 1) := by decide +kernel
theorem dX5_sum_20 : decode cX5_sum 20 = .ok (.istore 5, 2) := by decide +kernel
theorem dX5_sum_22 : decode cX5_sum 22 = .ok (.iload_n 1, 1) := by decide +kernel
theorem dX5_sum_23 : decode cX5_sum 23 = .ok (.iload 5, 2) := by decide +kernel
theorem dX5_sum_25 : decode cX5_sum 25 = .ok (.iadd, 1) := by decide +kernel
theorem dX5_sum_26 : decode cX5_sum 26 = .ok (.istore_n 1, 1) := by decide +kernel
theorem dX5_sum_27 : decode cX5_sum 27 = .ok (.iinc 4 1, 3) := by decide +kernel
theorem dX5_sum_30 : decode cX5_sum 30 = .ok (.goto (-20), 3) := by decide +kernel
theorem dX5_sum_33 : decode cX5_sum 33 = .ok (.iload_n 1, 1) := by decide +kernel
theorem dX5_sum_34 : decode cX5_sum 34 = .ok (.ireturn, 1) := by decide +kernel
theorem dX5_greatestDivisor_0 : decode cX5_greatestDivisor 0 = .ok (.lload_n 0, 1) := by decide +kernel
theorem dX5_greatestDivisor_1 : decode cX5_greatestDivisor 1 = .ok (.lstore 4, 2) := by decide +kernel
theorem dX5_greatestDivisor_3 : decode cX5_greatestDivisor 3 = .ok (.lload_n 2, 1) := by decide +kernel
theorem dX5_greatestDivisor_4 : decode cX5_greatestDivisor 4 = .ok (.lstore 6, 2) := by decide +kernel
theorem dX5_greatestDivisor_6 : decode cX5_greatestDivisor 6 = .ok (.iconst 0, 1) := by decide +kernel
theorem dX5_greatestDivisor_7 : decode cX5_greatestDivisor 7 = .ok (.istore 8, 2) := by decide +kernel
theorem dX5_greatestDivisor_9 : decode cX5_greatestDivisor 9 = .ok (.iload 8, 2) := by decide +kernel
theorem dX5_greatestDivisor_11 : decode cX5_greatestDivisor 11 = .ok (.bipush 100, 2) := by decide +kernel
theorem dX5_greatestDivisor_13 : decode cX5_greatestDivisor 13 = .ok (.if_icmp .ge 31, 3) := by decide +kernel
theorem dX5_greatestDivisor_16 : decode cX5_greatestDivisor 16 = .ok (.lload 6, 2) := by decide +kernel
theorem dX5_greatestDivisor_18 : decode cX5_greatestDivisor 18 = .ok (.lconst 0, 1) := by decide +kernel
theorem dX5_greatestDivisor_19 : decode cX5_greatestDivisor 19 = .ok (.lcmp, 1) := by decide +kernel
theorem dX5_greatestDivisor_20 : decode cX5_greatestDivisor 20 = .ok (.ifCond .eq 24, 3) := by decide +kernel
theorem dX5_greatestDivisor_23 : decode cX5_greatestDivisor 23 = .ok (.lload 4, 2) := by decide +kernel
theorem dX5_greatestDivisor_25 : decode cX5_greatestDivisor 25 = .ok (.lload 6, 2) := by decide +kernel
theorem dX5_greatestDivisor_27 : decode cX5_greatestDivisor 27 = .ok (.lrem, 1) := by decide +kernel
theorem dX5_greatestDivisor_28 : decode cX5_greatestDivisor 28 = .ok (.lstore 9, 2) := by decide +kernel
theorem dX5_greatestDivisor_30 : decode cX5_greatestDivisor 30 = .ok (.lload 6, 2) := by decide +kernel
theorem dX5_greatestDivisor_32 : decode cX5_greatestDivisor 32 = .ok (.lstore 4, 2) := by decide +kernel
theorem dX5_greatestDivisor_34 : decode cX5_greatestDivisor 34 = .ok (.lload 9, 2) := by decide +kernel
theorem dX5_greatestDivisor_36 : decode cX5_greatestDivisor 36 = .ok (.lstore 6, 2) := by decide +kernel
theorem dX5_greatestDivisor_38 : decode cX5_greatestDivisor 38 = .ok (.iinc 8 1, 3) := by decide +kernel
theorem dX5_greatestDivisor_41 : decode cX5_greatestDivisor 41 = .ok (.goto (-32), 3) := by decide +kernel
theorem dX5_greatestDivisor_44 : decode cX5_greatestDivisor 44 = .ok (.lload 4, 2) := by decide +kernel
theorem dX5_greatestDivisor_46 : decode cX5_greatestDivisor 46 = .ok (.lreturn, 1) := by decide +kernel
theorem dX6_init_0 : decode cX6_init 0 = .ok (.aload_n 0, 1) := by decide +kernel
theorem dX6_init_1 : decode cX6_init 1 = .ok (.invokespecial 1, 3) := by decide +kernel
theorem dX6_init_4 : decode cX6_init 4 = .ok (.aload_n 0, 1) := by decide +kernel
theorem dX6_init_5 : decode cX6_init 5 = .ok (.bipush 22, 2) := by decide +kernel
theorem dX6_init_7 : decode cX6_init 7 = .ok (.newarray .int, 2) := by decide +kernel
theorem dX6_init_9 : decode cX6_init 9 = .ok (.putfield 7, 3) := by decide +kernel
theorem dX6_init_12 : decode cX6_init 12 = .ok (.aload_n 0, 1) := by decide +kernel
theorem dX6_init_13 : decode cX6_init 13 = .ok (.bipush 15, 2) := by decide +kernel
theorem dX6_init_15 : decode cX6_init 15 = .ok (.newarray .int, 2) := by decide +kernel
theorem dX6_init_17 : decode cX6_init 17 = .ok (.putfield 13, 3) := by decide +kernel
theorem dX6_init_20 : decode cX6_init 20 = .ok (.aload_n 0, 1) := by decide +kernel
theorem dX6_init_21 : decode cX6_init 21 = .ok (.bipush 20, 2) := by decide +kernel
theorem dX6_init_23 : decode cX6_init 23 = .ok (.newarray .int, 2) := by decide +kernel
theorem dX6_init_25 : decode cX6_init 25 = .ok (.putfield 16, 3) := by decide +kernel
theorem dX6_init_28 : decode cX6_init 28 = .ok (.aload_n 0, 1) := by decide +kernel
theorem dX6_init_29 : decode cX6_init 29 = .ok (.iconst 5, 1) := by decide +kernel
theorem dX6_init_30 : decode cX6_init 30 = .ok (.newarray .int, 2) := by decide +kernel
theorem dX6_init_32 : decode cX6_init 32 = .ok (.putfield 19, 3) := by decide +kernel
theorem dX6_init_35 : decode cX6_init 35 = .ok (.aload_n 0, 1) := by decide +kernel
theorem dX6_init_36 : decode cX6_init 36 = .ok (.iconst 5, 1) := by decide +kernel
theorem dX6_init_37 : decode cX6_init 37 = .ok (.newarray .int, 2) := by decide +kernel
theorem dX6_init_39 : decode cX6_init 39 = .ok (.putfield 22, 3) := by decide +kernel
theorem dX6_init_42 : decode cX6_init 42 = .ok (.aload_n 0, 1) := by decide +kernel
theorem dX6_init_43 : decode cX6_init 43 = .ok (.bipush 24, 2) := by decide +kernel
theorem dX6_init_45 : decode cX6_init 45 = .ok (.newarray .int, 2) := by decide +kernel
theorem dX6_init_47 : decode cX6_init 47 = .ok (.putfield 25, 3) := by decide +kernel
theorem dX6_init_50 : decode cX6_init 50 = .ok (.aload_n 0, 1) := by decide +kernel
theorem dX6_init_51 : decode cX6_init 51 = .ok (.bipush 20, 2) := by decide +kernel
theorem dX6_init_53 : decode cX6_init 53 = .ok (.newarray .int, 2) := by decide +kernel
theorem dX6_init_55 : decode cX6_init 55 = .ok (.putfield 28, 3) := by decide +kernel
theorem dX6_init_58 : decode cX6_init 58 = .ok (.aload_n 0, 1) := by decide +kernel
theorem dX6_init_59 : decode cX6_init 59 = .ok (.bipush 15, 2) := by decide +kernel
theorem dX6_init_61 : decode cX6_init 61 = .ok (.newarray .int, 2) := by decide +kernel
theorem dX6_init_63 : decode cX6_init 63 = .ok (.putfield 31, 3) := by decide +kernel
theorem dX6_init_66 : decode cX6_init 66 = .ok (.aload_n 0, 1) := by decide +kernel
theorem dX6_init_67 : decode cX6_init 67 = .ok (.bipush 20, 2) := by decide +kernel
theorem dX6_init_69 : decode cX6_init 69 = .ok (.newarray .int, 2) := by decide +kernel
theorem dX6_init_71 : decode cX6_init 71 = .ok (.putfield 34, 3) := by decide +kernel
theorem dX6_init_74 : decode cX6_init 74 = .ok (.aload_n 0, 1) := by decide +kernel
theorem dX6_init_75 : decode cX6_init 75 = .ok (.bipush 24, 2) := by decide +kernel
theorem dX6_init_77 : decode cX6_init 77 = .ok (.newarray .int, 2) := by decide +kernel
theorem dX6_init_79 : decode cX6_init 79 = .ok (.putfield 37, 3) := by decide +kernel
theorem dX6_init_82 : decode cX6_init 82 = .ok (.aload_n 0, 1) := by decide +kernel
theorem dX6_init_83 : decode cX6_init 83 = .ok (.iconst (-1), 1) := by decide +kernel
theorem dX6_init_84 : decode cX6_init 84 = .ok (.putfield 40, 3) := by decide +kernel
theorem dX6_init_87 : decode cX6_init 87 = .ok (.return_, 1) := by decide +kernel
theorem dX6_in_0 : decode cX6_in 0 = .ok (.lload_n 0, 1) := by decide +kernel
theorem dX6_in_1 : decode cX6_in 1 = .ok (.lload_n 2, 1) := by decide +kernel
theorem dX6_in_2 : decode cX6_in 2 = .ok (.lcmp, 1) := by decide +kernel
theorem dX6_in_3 : decode cX6_in 3 = .ok (.ifCond .lt 14, 3) := by decide +kernel
theorem dX6_in_6 : decode cX6_in 6 = .ok (.lload_n 0, 1) := by decide +kernel
theorem dX6_in_7 : decode cX6_in 7 = .ok (.lload 4, 2) := by decide +kernel
theorem dX6_in_9 : decode cX6_in 9 = .ok (.lcmp, 1) := by decide +kernel
theorem dX6_in_10 : decode cX6_in 10 = .ok (.ifCond .gt 7, 3) := by decide +kernel
theorem dX6_in_13 : decode cX6_in 13 = .ok (.iconst 1, 1) := by decide +kernel
theorem dX6_in_14 : decode cX6_in 14 = .ok (.goto 4, 3) := by decide +kernel
theorem dX6_in_17 : decode cX6_in 17 = .ok (.iconst 0, 1) := by decide +kernel
theorem dX6_in_18 : decode cX6_in 18 = .ok (.ireturn, 1) := by decide +kernel
theorem dX6_copy_0 : decode cX6_copy 0 = .ok (.iconst 0, 1) := by decide +kernel
theorem dX6_copy_1 : decode cX6_copy 1 = .ok (.istore_n 2, 1) := by decide +kernel
theorem dX6_copy_2 : decode cX6_copy 2 = .ok (.iload_n 2, 1) := by decide +kernel
theorem dX6_copy_3 : decode cX6_copy 3 = .ok (.aload_n 0, 1) := by decide +kernel
theorem dX6_copy_4 : decode cX6_copy 4 = .ok (.arraylength, 1) := by decide +kernel
theorem dX6_copy_5 : decode cX6_copy 5 = .ok (.if_icmp .ge 15, 3) := by decide +kernel
theorem dX6_copy_8 : decode cX6_copy 8 = .ok (.aload_n 1, 1) := by decide +kernel
theorem dX6_copy_9 : decode cX6_copy 9 = .ok (.iload_n 2, 1) := by decide +kernel
theorem dX6_copy_10 : decode cX6_copy 10 = .ok (.aload_n 0, 1) := by decide +kernel
theorem dX6_copy_11 : decode cX6_copy 11 = .ok (.iload_n 2, 1) := by decide +kernel
theorem dX6_copy_12 : decode cX6_copy 12 = .ok (.iaload, 1) := by decide +kernel
theorem dX6_copy_13 : decode cX6_copy 13 = .ok (.iastore, 1) := by decide +kernel
theorem dX6_copy_14 : decode cX6_copy 14 = .ok (.iinc 2 1, 3) := by decide +kernel
theorem dX6_copy_17 : decode cX6_copy 17 = .ok (.goto (-15), 3) := by decide +kernel
theorem dX6_copy_20 : decode cX6_copy 20 = .ok (.return_, 1) := by decide +kernel
theorem dX6_common_0 : decode cX6_common 0 = .ok (.lload_n 0, 1) := by decide +kernel
theorem dX6_common_1 : decode cX6_common 1 = .ok (.lstore 4, 2) := by decide +kernel
theorem dX6_common_3 : decode cX6_common 3 = .ok (.lload_n 2, 1) := by decide +kernel
theorem dX6_common_4 : decode cX6_common 4 = .ok (.lstore 6, 2) := by decide +kernel
theorem dX6_common_6 : decode cX6_common 6 = .ok (.lload 6, 2) := by decide +kernel
theorem dX6_common_8 : decode cX6_common 8 = .ok (.lconst 0, 1) := by decide +kernel
theorem dX6_common_9 : decode cX6_common 9 = .ok (.lcmp, 1) := by decide +kernel
theorem dX6_common_10 : decode cX6_common 10 = .ok (.ifCond .le 21, 3) := by decide +kernel
theorem dX6_common_13 : decode cX6_common 13 = .ok (.lload 4, 2) := by decide +kernel
theorem dX6_common_15 : decode cX6_common 15 = .ok (.lload 6, 2) := by decide +kernel
theorem dX6_common_17 : decode cX6_common 17 = .ok (.lrem, 1) := by decide +kernel
theorem dX6_common_18 : decode cX6_common 18 = .ok (.lstore 8, 2) := by decide +kernel
theorem dX6_common_20 : decode cX6_common 20 = .ok (.lload 6, 2) := by decide +kernel
theorem dX6_common_22 : decode cX6_common 22 = .ok (.lstore 4, 2) := by decide +kernel
theorem dX6_common_24 : decode cX6_common 24 = .ok (.lload 8, 2) := by decide +kernel
theorem dX6_common_26 : decode cX6_common 26 = .ok (.lstore 6, 2) := by decide +kernel
theorem dX6_common_28 : decode cX6_common 28 = .ok (.goto (-22), 3) := by decide +kernel
theorem dX6_common_31 : decode cX6_common 31 = .ok (.lload 4, 2) := by decide +kernel
theorem dX6_common_33 : decode cX6_common 33 = .ok (.lreturn, 1) := by decide +kernel
set_option maxRecDepth 20000 in
theorem ggX6_letter_X6_in : GoodIn wsX6_letter wsX6_in := goodIn_r _ [7] (by decide +kernel) (by decide +kernel)
set_option maxRecDepth 20000 in
theorem gX6_letter_X6_in : GoodIn wsX6_letter (va_wsS RX6 46 yX6_in wsX6_in) := goodIn_app (goodIn_of _ (by decide +kernel)) ggX6_letter_X6_in
theorem dX6_letter_0 : decode cX6_letter 0 = .ok (.iload_n 1, 1) := by decide +kernel
theorem dX6_letter_1 : decode cX6_letter 1 = .ok (.i2l, 1) := by decide +kernel
theorem dX6_letter_2 : decode cX6_letter 2 = .ok (.lconst 1, 1) := by decide +kernel
theorem dX6_letter_3 : decode cX6_letter 3 = .ok (.ldc2_w 44, 3) := by decide +kernel
theorem dX6_letter_6 : decode cX6_letter 6 = .ok (.invokestatic 46, 3) := by decide +kernel
theorem dX6_letter_9 : decode cX6_letter 9 = .ok (.ifCond .ne 6, 3) := by decide +kernel
theorem dX6_letter_12 : decode cX6_letter 12 = .ok (.bipush (-102), 2) := by decide +kernel
theorem dX6_letter_14 : decode cX6_letter 14 = .ok (.ireturn, 1) := by decide +kernel
theorem dX6_letter_15 : decode cX6_letter 15 = .ok (.aload_n 0, 1) := by decide +kernel
theorem dX6_letter_16 : decode cX6_letter 16 = .ok (.getfield 50, 3) := by decide +kernel
theorem dX6_letter_19 : decode cX6_letter 19 = .ok (.bipush 22, 2) := by decide +kernel
theorem dX6_letter_21 : decode cX6_letter 21 = .ok (.if_icmp .ne 6, 3) := by decide +kernel
theorem dX6_letter_24 : decode cX6_letter 24 = .ok (.bipush (-104), 2) := by decide +kernel
theorem dX6_letter_26 : decode cX6_letter 26 = .ok (.ireturn, 1) := by decide +kernel
theorem dX6_letter_27 : decode cX6_letter 27 = .ok (.aload_n 0, 1) := by decide +kernel
theorem dX6_letter_28 : decode cX6_letter 28 = .ok (.getfield 7, 3) := by decide +kernel
theorem dX6_letter_31 : decode cX6_letter 31 = .ok (.aload_n 0, 1) := by decide +kernel
theorem dX6_letter_32 : decode cX6_letter 32 = .ok (.getfield 50, 3) := by decide +kernel
theorem dX6_letter_35 : decode cX6_letter 35 = .ok (.iload_n 1, 1) := by decide +kernel
theorem dX6_letter_36 : decode cX6_letter 36 = .ok (.iastore, 1) := by decide +kernel
theorem dX6_letter_37 : decode cX6_letter 37 = .ok (.aload_n 0, 1) := by decide +kernel
theorem dX6_letter_38 : decode cX6_letter 38 = .ok (.dup, 1) := by decide +kernel
theorem dX6_letter_39 : decode cX6_letter 39 = .ok (.getfield 50, 3) := by decide +kernel
theorem dX6_letter_42 : decode cX6_letter 42 = .ok (.iconst 1, 1) := by decide +kernel
theorem dX6_letter_43 : decode cX6_letter 43 = .ok (.iadd, 1) := by decide +kernel
theorem dX6_letter_44 : decode cX6_letter 44 = .ok (.putfield 50, 3) := by decide +kernel
theorem dX6_letter_47 : decode cX6_letter 47 = .ok (.aload_n 0, 1) := by decide +kernel
theorem dX6_letter_48 : decode cX6_letter 48 = .ok (.getfield 50, 3) := by decide +kernel
theorem dX6_letter_51 : decode cX6_letter 51 = .ok (.ireturn, 1) := by decide +kernel
theorem dX6_blank_0 : decode cX6_blank 0 = .ok (.aload_n 0, 1) := by decide +kernel
theorem dX6_blank_1 : decode cX6_blank 1 = .ok (.getfield 50, 3) := by decide +kernel
theorem dX6_blank_4 : decode cX6_blank 4 = .ok (.istore_n 1, 1) := by decide +kernel
theorem dX6_blank_5 : decode cX6_blank 5 = .ok (.aload_n 0, 1) := by decide +kernel
theorem dX6_blank_6 : decode cX6_blank 6 = .ok (.iconst 0, 1) := by decide +kernel
theorem dX6_blank_7 : decode cX6_blank 7 = .ok (.putfield 50, 3) := by decide +kernel
theorem dX6_blank_10 : decode cX6_blank 10 = .ok (.iload_n 1, 1) := by decide +kernel
theorem dX6_blank_11 : decode cX6_blank 11 = .ok (.ireturn, 1) := by decide +kernel
theorem dX6_kindBy_0 : decode cX6_kindBy 0 = .ok (.iload_n 0, 1) := by decide +kernel
theorem dX6_kindBy_1 : decode cX6_kindBy 1 = .ok (.bipush 107, 2) := by decide +kernel
theorem dX6_kindBy_3 : decode cX6_kindBy 3 = .ok (.if_icmp .ne 7, 3) := by decide +kernel
theorem dX6_kindBy_6 : decode cX6_kindBy 6 = .ok (.iconst 0, 1) := by decide +kernel
theorem dX6_kindBy_7 : decode cX6_kindBy 7 = .ok (.goto 44, 3) := by decide +kernel
theorem dX6_kindBy_10 : decode cX6_kindBy 10 = .ok (.iload_n 0, 1) := by decide +kernel
theorem dX6_kindBy_11 : decode cX6_kindBy 11 = .ok (.bipush 119, 2) := by decide +kernel
theorem dX6_kindBy_13 : decode cX6_kindBy 13 = .ok (.if_icmp .ne 7, 3) := by decide +kernel
theorem dX6_kindBy_16 : decode cX6_kindBy 16 = .ok (.iconst 1, 1) := by decide +kernel
theorem dX6_kindBy_17 : decode cX6_kindBy 17 = .ok (.goto 34, 3) := by decide +kernel
theorem dX6_kindBy_20 : decode cX6_kindBy 20 = .ok (.iload_n 0, 1) := by decide +kernel
theorem dX6_kindBy_21 : decode cX6_kindBy 21 = .ok (.bipush 108, 2) := by decide +kernel
theorem dX6_kindBy_23 : decode cX6_kindBy 23 = .ok (.if_icmp .ne 7, 3) := by decide +kernel
theorem dX6_kindBy_26 : decode cX6_kindBy 26 = .ok (.iconst 2, 1) := by decide +kernel
theorem dX6_kindBy_27 : decode cX6_kindBy 27 = .ok (.goto 24, 3) := by decide +kernel
theorem dX6_kindBy_30 : decode cX6_kindBy 30 = .ok (.iload_n 0, 1) := by decide +kernel
theorem dX6_kindBy_31 : decode cX6_kindBy 31 = .ok (.bipush 98, 2) := by decide +kernel
theorem dX6_kindBy_33 : decode cX6_kindBy 33 = .ok (.if_icmp .ne 7, 3) := by decide +kernel
theorem dX6_kindBy_36 : decode cX6_kindBy 36 = .ok (.iconst 3, 1) := by decide +kernel
theorem dX6_kindBy_37 : decode cX6_kindBy 37 = .ok (.goto 14, 3) := by decide +kernel
theorem dX6_kindBy_40 : decode cX6_kindBy 40 = .ok (.iload_n 0, 1) := by decide +kernel
theorem dX6_kindBy_41 : decode cX6_kindBy 41 = .ok (.bipush 109, 2) := by decide +kernel
theorem dX6_kindBy_43 : decode cX6_kindBy 43 = .ok (.if_icmp .ne 7, 3) := by decide +kernel
theorem dX6_kindBy_46 : decode cX6_kindBy 46 = .ok (.iconst 4, 1) := by decide +kernel
theorem dX6_kindBy_47 : decode cX6_kindBy 47 = .ok (.goto 4, 3) := by decide +kernel
theorem dX6_kindBy_50 : decode cX6_kindBy 50 = .ok (.iconst (-1), 1) := by decide +kernel
theorem dX6_kindBy_51 : decode cX6_kindBy 51 = .ok (.ireturn, 1) := by decide +kernel
set_option maxRecDepth 20000 in
theorem ggX6_isGood_X6_in : GoodIn wsX6_isGood wsX6_in := goodIn_r _ [8] (by decide +kernel) (by decide +kernel)
set_option maxRecDepth 20000 in
theorem gX6_isGood_X6_in : GoodIn wsX6_isGood (va_wsS RX6 46 yX6_in wsX6_in) := goodIn_app (goodIn_of _ (by decide +kernel)) ggX6_isGood_X6_in
set_option maxRecDepth 20000 in
theorem ggX6_isGood_X6_kindBy : GoodIn wsX6_isGood wsX6_kindBy := goodIn_r _ [11] (by decide +kernel) (by decide +kernel)
set_option maxRecDepth 20000 in
theorem gX6_isGood_X6_kindBy : GoodIn wsX6_isGood (va_wsS RX6 60 yX6_kindBy wsX6_kindBy) := goodIn_app (goodIn_of _ (by decide +kernel)) ggX6_isGood_X6_kindBy
theorem dX6_isGood_0 : decode cX6_isGood 0 = .ok (.aload_n 0, 1) := by decide +kernel
theorem dX6_isGood_1 : decode cX6_isGood 1 = .ok (.getfield 7, 3) := by decide +kernel
theorem dX6_isGood_4 : decode cX6_isGood 4 = .ok (.iload_n 1, 1) := by decide +kernel
theorem dX6_isGood_5 : decode cX6_isGood 5 = .ok (.iaload, 1) := by decide +kernel
theorem dX6_isGood_6 : decode cX6_isGood 6 = .ok (.istore_n 2, 1) := by decide +kernel
theorem dX6_isGood_7 : decode cX6_isGood 7 = .ok (.aload_n 0, 1) := by decide +kernel
theorem dX6_isGood_8 : decode cX6_isGood 8 = .ok (.getfield 53, 3) := by decide +kernel
theorem dX6_isGood_11 : decode cX6_isGood 11 = .ok (.iconst (-1), 1) := by decide +kernel
theorem dX6_isGood_12 : decode cX6_isGood 12 = .ok (.if_icmp .eq 34, 3) := by decide +kernel
theorem dX6_isGood_15 : decode cX6_isGood 15 = .ok (.iload_n 1, 1) := by decide +kernel
theorem dX6_isGood_16 : decode cX6_isGood 16 = .ok (.aload_n 0, 1) := by decide +kernel
theorem dX6_isGood_17 : decode cX6_isGood 17 = .ok (.getfield 53, 3) := by decide +kernel
theorem dX6_isGood_20 : decode cX6_isGood 20 = .ok (.isub, 1) := by decide +kernel
theorem dX6_isGood_21 : decode cX6_isGood 21 = .ok (.bipush 6, 2) := by decide +kernel
theorem dX6_isGood_23 : decode cX6_isGood 23 = .ok (.if_icmp .ge 21, 3) := by decide +kernel
theorem dX6_isGood_26 : decode cX6_isGood 26 = .ok (.iload_n 2, 1) := by decide +kernel
theorem dX6_isGood_27 : decode cX6_isGood 27 = .ok (.i2l, 1) := by decide +kernel
theorem dX6_isGood_28 : decode cX6_isGood 28 = .ok (.ldc2_w 56, 3) := by decide +kernel
theorem dX6_isGood_31 : decode cX6_isGood 31 = .ok (.ldc2_w 58, 3) := by decide +kernel
theorem dX6_isGood_34 : decode cX6_isGood 34 = .ok (.invokestatic 46, 3) := by decide +kernel
theorem dX6_isGood_37 : decode cX6_isGood 37 = .ok (.ifCond .eq 7, 3) := by decide +kernel
theorem dX6_isGood_40 : decode cX6_isGood 40 = .ok (.iconst 1, 1) := by decide +kernel
theorem dX6_isGood_41 : decode cX6_isGood 41 = .ok (.goto 4, 3) := by decide +kernel
theorem dX6_isGood_44 : decode cX6_isGood 44 = .ok (.iconst 0, 1) := by decide +kernel
theorem dX6_isGood_45 : decode cX6_isGood 45 = .ok (.ireturn, 1) := by decide +kernel
theorem dX6_isGood_46 : decode cX6_isGood 46 = .ok (.iload_n 1, 1) := by decide +kernel
theorem dX6_isGood_47 : decode cX6_isGood 47 = .ok (.iconst 3, 1) := by decide +kernel
theorem dX6_isGood_48 : decode cX6_isGood 48 = .ok (.irem, 1) := by decide +kernel
theorem dX6_isGood_49 : decode cX6_isGood 49 = .ok (.iconst 2, 1) := by decide +kernel
theorem dX6_isGood_50 : decode cX6_isGood 50 = .ok (.if_icmp .ne 39, 3) := by decide +kernel
theorem dX6_isGood_53 : decode cX6_isGood 53 = .ok (.iload_n 2, 1) := by decide +kernel
theorem dX6_isGood_54 : decode cX6_isGood 54 = .ok (.bipush 59, 2) := by decide +kernel
theorem dX6_isGood_56 : decode cX6_isGood 56 = .ok (.if_icmp .ne 15, 3) := by decide +kernel
theorem dX6_isGood_59 : decode cX6_isGood 59 = .ok (.iload_n 1, 1) := by decide +kernel
theorem dX6_isGood_60 : decode cX6_isGood 60 = .ok (.iconst 4, 1) := by decide +kernel
theorem dX6_isGood_61 : decode cX6_isGood 61 = .ok (.if_icmp .le 10, 3) := by decide +kernel
theorem dX6_isGood_64 : decode cX6_isGood 64 = .ok (.aload_n 0, 1) := by decide +kernel
theorem dX6_isGood_65 : decode cX6_isGood 65 = .ok (.iload_n 1, 1) := by decide +kernel
theorem dX6_isGood_66 : decode cX6_isGood 66 = .ok (.putfield 53, 3) := by decide +kernel
theorem dX6_isGood_69 : decode cX6_isGood 69 = .ok (.iconst 1, 1) := by decide +kernel
theorem dX6_isGood_70 : decode cX6_isGood 70 = .ok (.ireturn, 1) := by decide +kernel
theorem dX6_isGood_71 : decode cX6_isGood 71 = .ok (.iload_n 2, 1) := by decide +kernel
theorem dX6_isGood_72 : decode cX6_isGood 72 = .ok (.bipush 44, 2) := by decide +kernel
theorem dX6_isGood_74 : decode cX6_isGood 74 = .ok (.if_icmp .ne 13, 3) := by decide +kernel
theorem dX6_isGood_77 : decode cX6_isGood 77 = .ok (.iload_n 1, 1) := by decide +kernel
theorem dX6_isGood_78 : decode cX6_isGood 78 = .ok (.bipush 14, 2) := by decide +kernel
theorem dX6_isGood_80 : decode cX6_isGood 80 = .ok (.if_icmp .ge 7, 3) := by decide +kernel
theorem dX6_isGood_83 : decode cX6_isGood 83 = .ok (.iconst 1, 1) := by decide +kernel
theorem dX6_isGood_84 : decode cX6_isGood 84 = .ok (.goto 4, 3) := by decide +kernel
theorem dX6_isGood_87 : decode cX6_isGood 87 = .ok (.iconst 0, 1) := by decide +kernel
theorem dX6_isGood_88 : decode cX6_isGood 88 = .ok (.ireturn, 1) := by decide +kernel
theorem dX6_isGood_89 : decode cX6_isGood 89 = .ok (.iload_n 1, 1) := by decide +kernel
theorem dX6_isGood_90 : decode cX6_isGood 90 = .ok (.iconst 3, 1) := by decide +kernel
theorem dX6_isGood_91 : decode cX6_isGood 91 = .ok (.irem, 1) := by decide +kernel
theorem dX6_isGood_92 : decode cX6_isGood 92 = .ok (.ifCond .ne 19, 3) := by decide +kernel
theorem dX6_isGood_95 : decode cX6_isGood 95 = .ok (.iload_n 2, 1) := by decide +kernel
theorem dX6_isGood_96 : decode cX6_isGood 96 = .ok (.invokestatic 60, 3) := by decide +kernel
theorem dX6_isGood_99 : decode cX6_isGood 99 = .ok (.iconst (-1), 1) := by decide +kernel
theorem dX6_isGood_100 : decode cX6_isGood 100 = .ok (.if_icmp .eq 7, 3) := by decide +kernel
theorem dX6_isGood_103 : decode cX6_isGood 103 = .ok (.iconst 1, 1) := by decide +kernel
theorem dX6_isGood_104 : decode cX6_isGood 104 = .ok (.goto 18, 3) := by decide +kernel
theorem dX6_isGood_107 : decode cX6_isGood 107 = .ok (.iconst 0, 1) := by decide +kernel
theorem dX6_isGood_108 : decode cX6_isGood 108 = .ok (.goto 14, 3) := by decide +kernel
theorem dX6_isGood_111 : decode cX6_isGood 111 = .ok (.iload_n 2, 1) := by decide +kernel
theorem dX6_isGood_112 : decode cX6_isGood 112 = .ok (.i2l, 1) := by decide +kernel
theorem dX6_isGood_113 : decode cX6_isGood 113 = .ok (.ldc2_w 56, 3) := by decide +kernel
theorem dX6_isGood_116 : decode cX6_isGood 116 = .ok (.ldc2_w 58, 3) := by decide +kernel
theorem dX6_isGood_119 : decode cX6_isGood 119 = .ok (.invokestatic 46, 3) := by decide +kernel
theorem dX6_isGood_122 : decode cX6_isGood 122 = .ok (.ireturn, 1) := by decide +kernel
set_option maxRecDepth 20000 in
theorem ggX6_faultOf_X6_isGood : GoodIn wsX6_faultOf wsX6_isGood := goodIn_r _ [7, 8, 1, 9, 10, 11, 12, 6, 13, 14, 15, 16, 17, 18, 19, 20, 21, 22, 23, 24, 25, 26, 27, 28, 29, 30, 31, 32, 33, 34, 35, 36, 37, 38] (by decide +kernel) (by decide +kernel)
set_option maxRecDepth 20000 in
theorem gX6_faultOf_X6_isGood : GoodIn wsX6_faultOf (wsV RX6 64 RX6 yX6_isGood wsX6_isGood) := goodIn_app (goodIn_of _ (by decide +kernel)) ggX6_faultOf_X6_isGood
theorem dX6_faultOf_0 : decode cX6_faultOf 0 = .ok (.aload_n 0, 1) := by decide +kernel
theorem dX6_faultOf_1 : decode cX6_faultOf 1 = .ok (.iconst (-1), 1) := by decide +kernel
theorem dX6_faultOf_2 : decode cX6_faultOf 2 = .ok (.putfield 53, 3) := by decide +kernel
theorem dX6_faultOf_5 : decode cX6_faultOf 5 = .ok (.iconst 0, 1) := by decide +kernel
theorem dX6_faultOf_6 : decode cX6_faultOf 6 = .ok (.istore_n 1, 1) := by decide +kernel
theorem dX6_faultOf_7 : decode cX6_faultOf 7 = .ok (.iload_n 1, 1) := by decide +kernel
theorem dX6_faultOf_8 : decode cX6_faultOf 8 = .ok (.aload_n 0, 1) := by decide +kernel
theorem dX6_faultOf_9 : decode cX6_faultOf 9 = .ok (.getfield 50, 3) := by decide +kernel
theorem dX6_faultOf_12 : decode cX6_faultOf 12 = .ok (.if_icmp .ge 17, 3) := by decide +kernel
theorem dX6_faultOf_15 : decode cX6_faultOf 15 = .ok (.aload_n 0, 1) := by decide +kernel
theorem dX6_faultOf_16 : decode cX6_faultOf 16 = .ok (.iload_n 1, 1) := by decide +kernel
theorem dX6_faultOf_17 : decode cX6_faultOf 17 = .ok (.invokevirtual 64, 3) := by decide +kernel
theorem dX6_faultOf_20 : decode cX6_faultOf 20 = .ok (.ifCond .eq 9, 3) := by decide +kernel
theorem dX6_faultOf_23 : decode cX6_faultOf 23 = .ok (.iinc 1 1, 3) := by decide +kernel
theorem dX6_faultOf_26 : decode cX6_faultOf 26 = .ok (.goto (-19), 3) := by decide +kernel
theorem dX6_faultOf_29 : decode cX6_faultOf 29 = .ok (.iload_n 1, 1) := by decide +kernel
theorem dX6_faultOf_30 : decode cX6_faultOf 30 = .ok (.ireturn, 1) := by decide +kernel
set_option maxRecDepth 20000 in
theorem ggX6_fault_X6_faultOf : GoodIn wsX6_fault wsX6_faultOf := goodIn_r _ [5, 6, 7, 8, 9, 10, 4, 11, 12, 13, 14, 15, 16, 17, 18, 19, 20, 21, 22, 23, 24, 25, 26, 27, 28, 29, 30, 31, 32, 33, 34, 35, 36, 37, 38, 39, 40, 41, 42] (by decide +kernel) (by decide +kernel)
set_option maxRecDepth 20000 in
theorem gX6_fault_X6_faultOf : GoodIn wsX6_fault (wsV RX6 68 RX6 yX6_faultOf wsX6_faultOf) := goodIn_app (goodIn_of _ (by decide +kernel)) ggX6_fault_X6_faultOf
theorem dX6_fault_0 : decode cX6_fault 0 = .ok (.aload_n 0, 1) := by decide +kernel
theorem dX6_fault_1 : decode cX6_fault 1 = .ok (.invokevirtual 68, 3) := by decide +kernel
theorem dX6_fault_4 : decode cX6_fault 4 = .ok (.ireturn, 1) := by decide +kernel
set_option maxRecDepth 20000 in
theorem ggX6_tower_X6_faultOf : GoodIn wsX6_tower wsX6_faultOf := goodIn_r _ [15, 2, 1, 16, 17, 18, 14, 19, 5, 20, 21, 22, 23, 24, 25, 26, 27, 32, 33, 34, 35, 36, 37, 38, 39, 40, 41, 42, 43, 44, 45, 46, 47, 48, 49, 50, 51, 52, 53] (by decide +kernel) (by decide +kernel)
set_option maxRecDepth 20000 in
theorem gX6_tower_X6_faultOf : GoodIn wsX6_tower (wsV RX6 68 RX6 yX6_faultOf wsX6_faultOf) := goodIn_app (goodIn_of _ (by decide +kernel)) ggX6_tower_X6_faultOf
set_option maxRecDepth 20000 in
theorem ggX6_tower_X6_kindBy : GoodIn wsX6_tower wsX6_kindBy := goodIn_r _ [27] (by decide +kernel) (by decide +kernel)
set_option maxRecDepth 20000 in
theorem gX6_tower_X6_kindBy : GoodIn wsX6_tower (va_wsS RX6 60 yX6_kindBy wsX6_kindBy) := goodIn_app (goodIn_of _ (by decide +kernel)) ggX6_tower_X6_kindBy
set_option maxRecDepth 20000 in
theorem ggX6_tower_X6_empty : GoodIn wsX6_tower wsX6_empty := goodIn_r _ [31, 7, 32, 33, 34, 35, 36, 37, 38, 39, 40, 41, 42, 43, 44, 45, 46, 47, 48, 49, 50, 51, 52, 53] (by decide +kernel) (by decide +kernel)
set_option maxRecDepth 20000 in
theorem gX6_tower_X6_empty : GoodIn wsX6_tower (wsV RX6 78 RX6 yX6_empty wsX6_empty) := goodIn_app (goodIn_of _ (by decide +kernel)) ggX6_tower_X6_empty
theorem dX6_tower_0 : decode cX6_tower 0 = .ok (.aload_n 0, 1) := by decide +kernel
theorem dX6_tower_1 : decode cX6_tower 1 = .ok (.invokevirtual 68, 3) := by decide +kernel
theorem dX6_tower_4 : decode cX6_tower 4 = .ok (.aload_n 0, 1) := by decide +kernel
theorem dX6_tower_5 : decode cX6_tower 5 = .ok (.getfield 50, 3) := by decide +kernel
theorem dX6_tower_8 : decode cX6_tower 8 = .ok (.if_icmp .lt 24, 3) := by decide +kernel
theorem dX6_tower_11 : decode cX6_tower 11 = .ok (.aload_n 0, 1) := by decide +kernel
theorem dX6_tower_12 : decode cX6_tower 12 = .ok (.getfield 53, 3) := by decide +kernel
theorem dX6_tower_15 : decode cX6_tower 15 = .ok (.iconst (-1), 1) := by decide +kernel
theorem dX6_tower_16 : decode cX6_tower 16 = .ok (.if_icmp .eq 16, 3) := by decide +kernel
theorem dX6_tower_19 : decode cX6_tower 19 = .ok (.aload_n 0, 1) := by decide +kernel
theorem dX6_tower_20 : decode cX6_tower 20 = .ok (.getfield 50, 3) := by decide +kernel
theorem dX6_tower_23 : decode cX6_tower 23 = .ok (.aload_n 0, 1) := by decide +kernel
theorem dX6_tower_24 : decode cX6_tower 24 = .ok (.getfield 53, 3) := by decide +kernel
theorem dX6_tower_27 : decode cX6_tower 27 = .ok (.isub, 1) := by decide +kernel
theorem dX6_tower_28 : decode cX6_tower 28 = .ok (.iconst 3, 1) := by decide +kernel
theorem dX6_tower_29 : decode cX6_tower 29 = .ok (.if_icmp .ge 6, 3) := by decide +kernel
theorem dX6_tower_32 : decode cX6_tower 32 = .ok (.bipush (-103), 2) := by decide +kernel
theorem dX6_tower_34 : decode cX6_tower 34 = .ok (.ireturn, 1) := by decide +kernel
theorem dX6_tower_35 : decode cX6_tower 35 = .ok (.aload_n 0, 1) := by decide +kernel
theorem dX6_tower_36 : decode cX6_tower 36 = .ok (.aload_n 0, 1) := by decide +kernel
theorem dX6_tower_37 : decode cX6_tower 37 = .ok (.getfield 53, 3) := by decide +kernel
theorem dX6_tower_40 : decode cX6_tower 40 = .ok (.iconst 1, 1) := by decide +kernel
theorem dX6_tower_41 : decode cX6_tower 41 = .ok (.iadd, 1) := by decide +kernel
theorem dX6_tower_42 : decode cX6_tower 42 = .ok (.iconst 3, 1) := by decide +kernel
theorem dX6_tower_43 : decode cX6_tower 43 = .ok (.idiv, 1) := by decide +kernel
theorem dX6_tower_44 : decode cX6_tower 44 = .ok (.putfield 72, 3) := by decide +kernel
theorem dX6_tower_47 : decode cX6_tower 47 = .ok (.iconst 0, 1) := by decide +kernel
theorem dX6_tower_48 : decode cX6_tower 48 = .ok (.istore_n 1, 1) := by decide +kernel
theorem dX6_tower_49 : decode cX6_tower 49 = .ok (.iload_n 1, 1) := by decide +kernel
theorem dX6_tower_50 : decode cX6_tower 50 = .ok (.aload_n 0, 1) := by decide +kernel
theorem dX6_tower_51 : decode cX6_tower 51 = .ok (.getfield 72, 3) := by decide +kernel
theorem dX6_tower_54 : decode cX6_tower 54 = .ok (.if_icmp .ge 62, 3) := by decide +kernel
theorem dX6_tower_57 : decode cX6_tower 57 = .ok (.aload_n 0, 1) := by decide +kernel
theorem dX6_tower_58 : decode cX6_tower 58 = .ok (.getfield 13, 3) := by decide +kernel
theorem dX6_tower_61 : decode cX6_tower 61 = .ok (.iconst 3, 1) := by decide +kernel
theorem dX6_tower_62 : decode cX6_tower 62 = .ok (.iload_n 1, 1) := by decide +kernel
theorem dX6_tower_63 : decode cX6_tower 63 = .ok (.imul, 1) := by decide +kernel
theorem dX6_tower_64 : decode cX6_tower 64 = .ok (.aload_n 0, 1) := by decide +kernel
theorem dX6_tower_65 : decode cX6_tower 65 = .ok (.getfield 7, 3) := by decide +kernel
theorem dX6_tower_68 : decode cX6_tower 68 = .ok (.iconst 3, 1) := by decide +kernel
theorem dX6_tower_69 : decode cX6_tower 69 = .ok (.iload_n 1, 1) := by decide +kernel
theorem dX6_tower_70 : decode cX6_tower 70 = .ok (.imul, 1) := by decide +kernel
theorem dX6_tower_71 : decode cX6_tower 71 = .ok (.iaload, 1) := by decide +kernel
theorem dX6_tower_72 : decode cX6_tower 72 = .ok (.invokestatic 60, 3) := by decide +kernel
theorem dX6_tower_75 : decode cX6_tower 75 = .ok (.iastore, 1) := by decide +kernel
theorem dX6_tower_76 : decode cX6_tower 76 = .ok (.aload_n 0, 1) := by decide +kernel
theorem dX6_tower_77 : decode cX6_tower 77 = .ok (.getfield 13, 3) := by decide +kernel
theorem dX6_tower_80 : decode cX6_tower 80 = .ok (.iconst 3, 1) := by decide +kernel
theorem dX6_tower_81 : decode cX6_tower 81 = .ok (.iload_n 1, 1) := by decide +kernel
theorem dX6_tower_82 : decode cX6_tower 82 = .ok (.imul, 1) := by decide +kernel
theorem dX6_tower_83 : decode cX6_tower 83 = .ok (.iconst 1, 1) := by decide +kernel
theorem dX6_tower_84 : decode cX6_tower 84 = .ok (.iadd, 1) := by decide +kernel
theorem dX6_tower_85 : decode cX6_tower 85 = .ok (.aload_n 0, 1) := by decide +kernel
theorem dX6_tower_86 : decode cX6_tower 86 = .ok (.getfield 7, 3) := by decide +kernel
theorem dX6_tower_89 : decode cX6_tower 89 = .ok (.iconst 3, 1) := by decide +kernel
theorem dX6_tower_90 : decode cX6_tower 90 = .ok (.iload_n 1, 1) := by decide +kernel
theorem dX6_tower_91 : decode cX6_tower 91 = .ok (.imul, 1) := by decide +kernel
theorem dX6_tower_92 : decode cX6_tower 92 = .ok (.iconst 1, 1) := by decide +kernel
theorem dX6_tower_93 : decode cX6_tower 93 = .ok (.iadd, 1) := by decide +kernel
theorem dX6_tower_94 : decode cX6_tower 94 = .ok (.iaload, 1) := by decide +kernel
theorem dX6_tower_95 : decode cX6_tower 95 = .ok (.bipush 48, 2) := by decide +kernel
theorem dX6_tower_97 : decode cX6_tower 97 = .ok (.isub, 1) := by decide +kernel
theorem dX6_tower_98 : decode cX6_tower 98 = .ok (.iastore, 1) := by decide +kernel
theorem dX6_tower_99 : decode cX6_tower 99 = .ok (.aload_n 0, 1) := by decide +kernel
theorem dX6_tower_100 : decode cX6_tower 100 = .ok (.getfield 13, 3) := by decide +kernel
theorem dX6_tower_103 : decode cX6_tower 103 = .ok (.iconst 3, 1) := by decide +kernel
theorem dX6_tower_104 : decode cX6_tower 104 = .ok (.iload_n 1, 1) := by decide +kernel
theorem dX6_tower_105 : decode cX6_tower 105 = .ok (.imul, 1) := by decide +kernel
theorem dX6_tower_106 : decode cX6_tower 106 = .ok (.iconst 2, 1) := by decide +kernel
theorem dX6_tower_107 : decode cX6_tower 107 = .ok (.iadd, 1) := by decide +kernel
theorem dX6_tower_108 : decode cX6_tower 108 = .ok (.iconst 0, 1) := by decide +kernel
theorem dX6_tower_109 : decode cX6_tower 109 = .ok (.iastore, 1) := by decide +kernel
theorem dX6_tower_110 : decode cX6_tower 110 = .ok (.iinc 1 1, 3) := by decide +kernel
theorem dX6_tower_113 : decode cX6_tower 113 = .ok (.goto (-64), 3) := by decide +kernel
theorem dX6_tower_116 : decode cX6_tower 116 = .ok (.aload_n 0, 1) := by decide +kernel
theorem dX6_tower_117 : decode cX6_tower 117 = .ok (.aload_n 0, 1) := by decide +kernel
theorem dX6_tower_118 : decode cX6_tower 118 = .ok (.getfield 50, 3) := by decide +kernel
theorem dX6_tower_121 : decode cX6_tower 121 = .ok (.aload_n 0, 1) := by decide +kernel
theorem dX6_tower_122 : decode cX6_tower 122 = .ok (.getfield 53, 3) := by decide +kernel
theorem dX6_tower_125 : decode cX6_tower 125 = .ok (.isub, 1) := by decide +kernel
theorem dX6_tower_126 : decode cX6_tower 126 = .ok (.iconst 1, 1) := by decide +kernel
theorem dX6_tower_127 : decode cX6_tower 127 = .ok (.isub, 1) := by decide +kernel
theorem dX6_tower_128 : decode cX6_tower 128 = .ok (.putfield 75, 3) := by decide +kernel
theorem dX6_tower_131 : decode cX6_tower 131 = .ok (.iconst 0, 1) := by decide +kernel
theorem dX6_tower_132 : decode cX6_tower 132 = .ok (.istore_n 1, 1) := by decide +kernel
theorem dX6_tower_133 : decode cX6_tower 133 = .ok (.iload_n 1, 1) := by decide +kernel
theorem dX6_tower_134 : decode cX6_tower 134 = .ok (.aload_n 0, 1) := by decide +kernel
theorem dX6_tower_135 : decode cX6_tower 135 = .ok (.getfield 75, 3) := by decide +kernel
theorem dX6_tower_138 : decode cX6_tower 138 = .ok (.if_icmp .ge 38, 3) := by decide +kernel
theorem dX6_tower_141 : decode cX6_tower 141 = .ok (.aload_n 0, 1) := by decide +kernel
theorem dX6_tower_142 : decode cX6_tower 142 = .ok (.getfield 16, 3) := by decide +kernel
theorem dX6_tower_145 : decode cX6_tower 145 = .ok (.iconst 4, 1) := by decide +kernel
theorem dX6_tower_146 : decode cX6_tower 146 = .ok (.iload_n 1, 1) := by decide +kernel
theorem dX6_tower_147 : decode cX6_tower 147 = .ok (.imul, 1) := by decide +kernel
theorem dX6_tower_148 : decode cX6_tower 148 = .ok (.aload_n 0, 1) := by decide +kernel
theorem dX6_tower_149 : decode cX6_tower 149 = .ok (.getfield 7, 3) := by decide +kernel
theorem dX6_tower_152 : decode cX6_tower 152 = .ok (.aload_n 0, 1) := by decide +kernel
theorem dX6_tower_153 : decode cX6_tower 153 = .ok (.getfield 53, 3) := by decide +kernel
theorem dX6_tower_156 : decode cX6_tower 156 = .ok (.iconst 1, 1) := by decide +kernel
theorem dX6_tower_157 : decode cX6_tower 157 = .ok (.iadd, 1) := by decide +kernel
theorem dX6_tower_158 : decode cX6_tower 158 = .ok (.iload_n 1, 1) := by decide +kernel
theorem dX6_tower_159 : decode cX6_tower 159 = .ok (.iadd, 1) := by decide +kernel
theorem dX6_tower_160 : decode cX6_tower 160 = .ok (.iaload, 1) := by decide +kernel
theorem dX6_tower_161 : decode cX6_tower 161 = .ok (.bipush 48, 2) := by decide +kernel
theorem dX6_tower_163 : decode cX6_tower 163 = .ok (.isub, 1) := by decide +kernel
theorem dX6_tower_164 : decode cX6_tower 164 = .ok (.iastore, 1) := by decide +kernel
theorem dX6_tower_165 : decode cX6_tower 165 = .ok (.aload_n 0, 1) := by decide +kernel
theorem dX6_tower_166 : decode cX6_tower 166 = .ok (.iload_n 1, 1) := by decide +kernel
theorem dX6_tower_167 : decode cX6_tower 167 = .ok (.invokevirtual 78, 3) := by decide +kernel
theorem dX6_tower_170 : decode cX6_tower 170 = .ok (.iinc 1 1, 3) := by decide +kernel
theorem dX6_tower_173 : decode cX6_tower 173 = .ok (.goto (-40), 3) := by decide +kernel
theorem dX6_tower_176 : decode cX6_tower 176 = .ok (.aload_n 0, 1) := by decide +kernel
theorem dX6_tower_177 : decode cX6_tower 177 = .ok (.iconst 0, 1) := by decide +kernel
theorem dX6_tower_178 : decode cX6_tower 178 = .ok (.putfield 82, 3) := by decide +kernel
theorem dX6_tower_181 : decode cX6_tower 181 = .ok (.aload_n 0, 1) := by decide +kernel
theorem dX6_tower_182 : decode cX6_tower 182 = .ok (.iconst 0, 1) := by decide +kernel
theorem dX6_tower_183 : decode cX6_tower 183 = .ok (.putfield 85, 3) := by decide +kernel
theorem dX6_tower_186 : decode cX6_tower 186 = .ok (.aload_n 0, 1) := by decide +kernel
theorem dX6_tower_187 : decode cX6_tower 187 = .ok (.dup, 1) := by decide +kernel
theorem dX6_tower_188 : decode cX6_tower 188 = .ok (.getfield 88, 3) := by decide +kernel
theorem dX6_tower_191 : decode cX6_tower 191 = .ok (.iconst 1, 1) := by decide +kernel
theorem dX6_tower_192 : decode cX6_tower 192 = .ok (.iadd, 1) := by decide +kernel
theorem dX6_tower_193 : decode cX6_tower 193 = .ok (.putfield 88, 3) := by decide +kernel
theorem dX6_tower_196 : decode cX6_tower 196 = .ok (.aload_n 0, 1) := by decide +kernel
theorem dX6_tower_197 : decode cX6_tower 197 = .ok (.iconst 0, 1) := by decide +kernel
theorem dX6_tower_198 : decode cX6_tower 198 = .ok (.putfield 50, 3) := by decide +kernel
theorem dX6_tower_201 : decode cX6_tower 201 = .ok (.aload_n 0, 1) := by decide +kernel
theorem dX6_tower_202 : decode cX6_tower 202 = .ok (.getfield 75, 3) := by decide +kernel
theorem dX6_tower_205 : decode cX6_tower 205 = .ok (.ireturn, 1) := by decide +kernel
theorem dX6_empty_0 : decode cX6_empty 0 = .ok (.aload_n 0, 1) := by decide +kernel
theorem dX6_empty_1 : decode cX6_empty 1 = .ok (.getfield 16, 3) := by decide +kernel
theorem dX6_empty_4 : decode cX6_empty 4 = .ok (.iconst 4, 1) := by decide +kernel
theorem dX6_empty_5 : decode cX6_empty 5 = .ok (.iload_n 1, 1) := by decide +kernel
theorem dX6_empty_6 : decode cX6_empty 6 = .ok (.imul, 1) := by decide +kernel
theorem dX6_empty_7 : decode cX6_empty 7 = .ok (.iconst 1, 1) := by decide +kernel
theorem dX6_empty_8 : decode cX6_empty 8 = .ok (.iadd, 1) := by decide +kernel
theorem dX6_empty_9 : decode cX6_empty 9 = .ok (.iconst (-1), 1) := by decide +kernel
theorem dX6_empty_10 : decode cX6_empty 10 = .ok (.iastore, 1) := by decide +kernel
theorem dX6_empty_11 : decode cX6_empty 11 = .ok (.aload_n 0, 1) := by decide +kernel
theorem dX6_empty_12 : decode cX6_empty 12 = .ok (.getfield 16, 3) := by decide +kernel
theorem dX6_empty_15 : decode cX6_empty 15 = .ok (.iconst 4, 1) := by decide +kernel
theorem dX6_empty_16 : decode cX6_empty 16 = .ok (.iload_n 1, 1) := by decide +kernel
theorem dX6_empty_17 : decode cX6_empty 17 = .ok (.imul, 1) := by decide +kernel
theorem dX6_empty_18 : decode cX6_empty 18 = .ok (.iconst 2, 1) := by decide +kernel
theorem dX6_empty_19 : decode cX6_empty 19 = .ok (.iadd, 1) := by decide +kernel
theorem dX6_empty_20 : decode cX6_empty 20 = .ok (.iconst 0, 1) := by decide +kernel
theorem dX6_empty_21 : decode cX6_empty 21 = .ok (.iastore, 1) := by decide +kernel
theorem dX6_empty_22 : decode cX6_empty 22 = .ok (.aload_n 0, 1) := by decide +kernel
theorem dX6_empty_23 : decode cX6_empty 23 = .ok (.getfield 16, 3) := by decide +kernel
theorem dX6_empty_26 : decode cX6_empty 26 = .ok (.iconst 4, 1) := by decide +kernel
theorem dX6_empty_27 : decode cX6_empty 27 = .ok (.iload_n 1, 1) := by decide +kernel
theorem dX6_empty_28 : decode cX6_empty 28 = .ok (.imul, 1) := by decide +kernel
theorem dX6_empty_29 : decode cX6_empty 29 = .ok (.iconst 3, 1) := by decide +kernel
theorem dX6_empty_30 : decode cX6_empty 30 = .ok (.iadd, 1) := by decide +kernel
theorem dX6_empty_31 : decode cX6_empty 31 = .ok (.iconst 0, 1) := by decide +kernel
theorem dX6_empty_32 : decode cX6_empty 32 = .ok (.iastore, 1) := by decide +kernel
theorem dX6_empty_33 : decode cX6_empty 33 = .ok (.return_, 1) := by decide +kernel
theorem dX6_lacks_0 : decode cX6_lacks 0 = .ok (.aload_n 0, 1) := by decide +kernel
theorem dX6_lacks_1 : decode cX6_lacks 1 = .ok (.getfield 75, 3) := by decide +kernel
theorem dX6_lacks_4 : decode cX6_lacks 4 = .ok (.ifCond .ne 7, 3) := by decide +kernel
theorem dX6_lacks_7 : decode cX6_lacks 7 = .ok (.iconst 1, 1) := by decide +kernel
theorem dX6_lacks_8 : decode cX6_lacks 8 = .ok (.goto 4, 3) := by decide +kernel
theorem dX6_lacks_11 : decode cX6_lacks 11 = .ok (.iconst 0, 1) := by decide +kernel
theorem dX6_lacks_12 : decode cX6_lacks 12 = .ok (.ireturn, 1) := by decide +kernel
set_option maxRecDepth 20000 in
theorem ggX6_isKeeper_X6_in : GoodIn wsX6_isKeeper wsX6_in := goodIn_r _ [5] (by decide +kernel) (by decide +kernel)
set_option maxRecDepth 20000 in
theorem gX6_isKeeper_X6_in : GoodIn wsX6_isKeeper (va_wsS RX6 46 yX6_in wsX6_in) := goodIn_app (goodIn_of _ (by decide +kernel)) ggX6_isKeeper_X6_in
theorem dX6_isKeeper_0 : decode cX6_isKeeper 0 = .ok (.iload_n 1, 1) := by decide +kernel
theorem dX6_isKeeper_1 : decode cX6_isKeeper 1 = .ok (.i2l, 1) := by decide +kernel
theorem dX6_isKeeper_2 : decode cX6_isKeeper 2 = .ok (.lconst 0, 1) := by decide +kernel
theorem dX6_isKeeper_3 : decode cX6_isKeeper 3 = .ok (.aload_n 0, 1) := by decide +kernel
theorem dX6_isKeeper_4 : decode cX6_isKeeper 4 = .ok (.getfield 72, 3) := by decide +kernel
theorem dX6_isKeeper_7 : decode cX6_isKeeper 7 = .ok (.iconst 1, 1) := by decide +kernel
theorem dX6_isKeeper_8 : decode cX6_isKeeper 8 = .ok (.isub, 1) := by decide +kernel
theorem dX6_isKeeper_9 : decode cX6_isKeeper 9 = .ok (.i2l, 1) := by decide +kernel
theorem dX6_isKeeper_10 : decode cX6_isKeeper 10 = .ok (.invokestatic 46, 3) := by decide +kernel
theorem dX6_isKeeper_13 : decode cX6_isKeeper 13 = .ok (.ireturn, 1) := by decide +kernel
set_option maxRecDepth 20000 in
theorem ggX6_isHole_X6_in : GoodIn wsX6_isHole wsX6_in := goodIn_r _ [5] (by decide +kernel) (by decide +kernel)
set_option maxRecDepth 20000 in
theorem gX6_isHole_X6_in : GoodIn wsX6_isHole (va_wsS RX6 46 yX6_in wsX6_in) := goodIn_app (goodIn_of _ (by decide +kernel)) ggX6_isHole_X6_in
theorem dX6_isHole_0 : decode cX6_isHole 0 = .ok (.iload_n 1, 1) := by decide +kernel
theorem dX6_isHole_1 : decode cX6_isHole 1 = .ok (.i2l, 1) := by decide +kernel
theorem dX6_isHole_2 : decode cX6_isHole 2 = .ok (.lconst 0, 1) := by decide +kernel
theorem dX6_isHole_3 : decode cX6_isHole 3 = .ok (.aload_n 0, 1) := by decide +kernel
theorem dX6_isHole_4 : decode cX6_isHole 4 = .ok (.getfield 75, 3) := by decide +kernel
theorem dX6_isHole_7 : decode cX6_isHole 7 = .ok (.iconst 1, 1) := by decide +kernel
theorem dX6_isHole_8 : decode cX6_isHole 8 = .ok (.isub, 1) := by decide +kernel
theorem dX6_isHole_9 : decode cX6_isHole 9 = .ok (.i2l, 1) := by decide +kernel
theorem dX6_isHole_10 : decode cX6_isHole 10 = .ok (.invokestatic 46, 3) := by decide +kernel
theorem dX6_isHole_13 : decode cX6_isHole 13 = .ok (.ireturn, 1) := by decide +kernel
theorem dX6_tenthsBy_0 : decode cX6_tenthsBy 0 = .ok (.iload_n 1, 1) := by decide +kernel
theorem dX6_tenthsBy_1 : decode cX6_tenthsBy 1 = .ok (.iconst 5, 1) := by decide +kernel
theorem dX6_tenthsBy_2 : decode cX6_tenthsBy 2 = .ok (.iadd, 1) := by decide +kernel
theorem dX6_tenthsBy_3 : decode cX6_tenthsBy 3 = .ok (.iload_n 2, 1) := by decide +kernel
theorem dX6_tenthsBy_4 : decode cX6_tenthsBy 4 = .ok (.isub, 1) := by decide +kernel
theorem dX6_tenthsBy_5 : decode cX6_tenthsBy 5 = .ok (.istore_n 3, 1) := by decide +kernel
theorem dX6_tenthsBy_6 : decode cX6_tenthsBy 6 = .ok (.iload_n 0, 1) := by decide +kernel
theorem dX6_tenthsBy_7 : decode cX6_tenthsBy 7 = .ok (.iconst 4, 1) := by decide +kernel
theorem dX6_tenthsBy_8 : decode cX6_tenthsBy 8 = .ok (.if_icmp .ne 6, 3) := by decide +kernel
theorem dX6_tenthsBy_11 : decode cX6_tenthsBy 11 = .ok (.iinc 3 2, 3) := by decide +kernel
theorem dX6_tenthsBy_14 : decode cX6_tenthsBy 14 = .ok (.iload_n 0, 1) := by decide +kernel
theorem dX6_tenthsBy_15 : decode cX6_tenthsBy 15 = .ok (.iconst 3, 1) := by decide +kernel
theorem dX6_tenthsBy_16 : decode cX6_tenthsBy 16 = .ok (.if_icmp .ne 7, 3) := by decide +kernel
theorem dX6_tenthsBy_19 : decode cX6_tenthsBy 19 = .ok (.iload_n 3, 1) := by decide +kernel
theorem dX6_tenthsBy_20 : decode cX6_tenthsBy 20 = .ok (.iload_n 2, 1) := by decide +kernel
theorem dX6_tenthsBy_21 : decode cX6_tenthsBy 21 = .ok (.isub, 1) := by decide +kernel
theorem dX6_tenthsBy_22 : decode cX6_tenthsBy 22 = .ok (.istore_n 3, 1) := by decide +kernel
theorem dX6_tenthsBy_23 : decode cX6_tenthsBy 23 = .ok (.iload_n 0, 1) := by decide +kernel
theorem dX6_tenthsBy_24 : decode cX6_tenthsBy 24 = .ok (.iconst 1, 1) := by decide +kernel
theorem dX6_tenthsBy_25 : decode cX6_tenthsBy 25 = .ok (.if_icmp .eq 8, 3) := by decide +kernel
theorem dX6_tenthsBy_28 : decode cX6_tenthsBy 28 = .ok (.iload_n 0, 1) := by decide +kernel
theorem dX6_tenthsBy_29 : decode cX6_tenthsBy 29 = .ok (.iconst 4, 1) := by decide +kernel
theorem dX6_tenthsBy_30 : decode cX6_tenthsBy 30 = .ok (.if_icmp .ne 14, 3) := by decide +kernel
theorem dX6_tenthsBy_33 : decode cX6_tenthsBy 33 = .ok (.iload_n 3, 1) := by decide +kernel
theorem dX6_tenthsBy_34 : decode cX6_tenthsBy 34 = .ok (.iconst 3, 1) := by decide +kernel
theorem dX6_tenthsBy_35 : decode cX6_tenthsBy 35 = .ok (.if_icmp .ge 7, 3) := by decide +kernel
theorem dX6_tenthsBy_38 : decode cX6_tenthsBy 38 = .ok (.iconst 3, 1) := by decide +kernel
theorem dX6_tenthsBy_39 : decode cX6_tenthsBy 39 = .ok (.goto 4, 3) := by decide +kernel
theorem dX6_tenthsBy_42 : decode cX6_tenthsBy 42 = .ok (.iload_n 3, 1) := by decide +kernel
theorem dX6_tenthsBy_43 : decode cX6_tenthsBy 43 = .ok (.istore_n 3, 1) := by decide +kernel
theorem dX6_tenthsBy_44 : decode cX6_tenthsBy 44 = .ok (.iload_n 3, 1) := by decide +kernel
theorem dX6_tenthsBy_45 : decode cX6_tenthsBy 45 = .ok (.ifCond .ge 7, 3) := by decide +kernel
theorem dX6_tenthsBy_48 : decode cX6_tenthsBy 48 = .ok (.iconst 0, 1) := by decide +kernel
theorem dX6_tenthsBy_49 : decode cX6_tenthsBy 49 = .ok (.goto 15, 3) := by decide +kernel
theorem dX6_tenthsBy_52 : decode cX6_tenthsBy 52 = .ok (.iload_n 3, 1) := by decide +kernel
theorem dX6_tenthsBy_53 : decode cX6_tenthsBy 53 = .ok (.bipush 10, 2) := by decide +kernel
theorem dX6_tenthsBy_55 : decode cX6_tenthsBy 55 = .ok (.if_icmp .le 8, 3) := by decide +kernel
theorem dX6_tenthsBy_58 : decode cX6_tenthsBy 58 = .ok (.bipush 10, 2) := by decide +kernel
theorem dX6_tenthsBy_60 : decode cX6_tenthsBy 60 = .ok (.goto 4, 3) := by decide +kernel
theorem dX6_tenthsBy_63 : decode cX6_tenthsBy 63 = .ok (.iload_n 3, 1) := by decide +kernel
theorem dX6_tenthsBy_64 : decode cX6_tenthsBy 64 = .ok (.ireturn, 1) := by decide +kernel
set_option maxRecDepth 20000 in
theorem ggX6_tenthsOf_X6_tenthsBy : GoodIn wsX6_tenthsOf wsX6_tenthsBy := goodIn_r _ [5] (by decide +kernel) (by decide +kernel)
set_option maxRecDepth 20000 in
theorem gX6_tenthsOf_X6_tenthsBy : GoodIn wsX6_tenthsOf (va_wsS RX6 91 yX6_tenthsBy wsX6_tenthsBy) := goodIn_app (goodIn_of _ (by decide +kernel)) ggX6_tenthsOf_X6_tenthsBy
theorem dX6_tenthsOf_0 : decode cX6_tenthsOf 0 = .ok (.aload_n 0, 1) := by decide +kernel
theorem dX6_tenthsOf_1 : decode cX6_tenthsOf 1 = .ok (.getfield 13, 3) := by decide +kernel
theorem dX6_tenthsOf_4 : decode cX6_tenthsOf 4 = .ok (.iconst 3, 1) := by decide +kernel
theorem dX6_tenthsOf_5 : decode cX6_tenthsOf 5 = .ok (.iload_n 1, 1) := by decide +kernel
theorem dX6_tenthsOf_6 : decode cX6_tenthsOf 6 = .ok (.imul, 1) := by decide +kernel
theorem dX6_tenthsOf_7 : decode cX6_tenthsOf 7 = .ok (.iaload, 1) := by decide +kernel
theorem dX6_tenthsOf_8 : decode cX6_tenthsOf 8 = .ok (.aload_n 0, 1) := by decide +kernel
theorem dX6_tenthsOf_9 : decode cX6_tenthsOf 9 = .ok (.getfield 13, 3) := by decide +kernel
theorem dX6_tenthsOf_12 : decode cX6_tenthsOf 12 = .ok (.iconst 3, 1) := by decide +kernel
theorem dX6_tenthsOf_13 : decode cX6_tenthsOf 13 = .ok (.iload_n 1, 1) := by decide +kernel
theorem dX6_tenthsOf_14 : decode cX6_tenthsOf 14 = .ok (.imul, 1) := by decide +kernel
theorem dX6_tenthsOf_15 : decode cX6_tenthsOf 15 = .ok (.iconst 1, 1) := by decide +kernel
theorem dX6_tenthsOf_16 : decode cX6_tenthsOf 16 = .ok (.iadd, 1) := by decide +kernel
theorem dX6_tenthsOf_17 : decode cX6_tenthsOf 17 = .ok (.iaload, 1) := by decide +kernel
theorem dX6_tenthsOf_18 : decode cX6_tenthsOf 18 = .ok (.iload_n 2, 1) := by decide +kernel
theorem dX6_tenthsOf_19 : decode cX6_tenthsOf 19 = .ok (.invokestatic 91, 3) := by decide +kernel
theorem dX6_tenthsOf_22 : decode cX6_tenthsOf 22 = .ok (.ireturn, 1) := by decide +kernel
theorem dX6_setOf_0 : decode cX6_setOf 0 = .ok (.iconst 0, 1) := by decide +kernel
theorem dX6_setOf_1 : decode cX6_setOf 1 = .ok (.istore_n 2, 1) := by decide +kernel
theorem dX6_setOf_2 : decode cX6_setOf 2 = .ok (.iconst 0, 1) := by decide +kernel
theorem dX6_setOf_3 : decode cX6_setOf 3 = .ok (.istore_n 3, 1) := by decide +kernel
theorem dX6_setOf_4 : decode cX6_setOf 4 = .ok (.iload_n 3, 1) := by decide +kernel
theorem dX6_setOf_5 : decode cX6_setOf 5 = .ok (.aload_n 0, 1) := by decide +kernel
theorem dX6_setOf_6 : decode cX6_setOf 6 = .ok (.getfield 75, 3) := by decide +kernel
theorem dX6_setOf_9 : decode cX6_setOf 9 = .ok (.if_icmp .ge 33, 3) := by decide +kernel
theorem dX6_setOf_12 : decode cX6_setOf 12 = .ok (.iload_n 2, 1) := by decide +kernel
theorem dX6_setOf_13 : decode cX6_setOf 13 = .ok (.aload_n 0, 1) := by decide +kernel
theorem dX6_setOf_14 : decode cX6_setOf 14 = .ok (.getfield 16, 3) := by decide +kernel
theorem dX6_setOf_17 : decode cX6_setOf 17 = .ok (.iconst 4, 1) := by decide +kernel
theorem dX6_setOf_18 : decode cX6_setOf 18 = .ok (.iload_n 3, 1) := by decide +kernel
theorem dX6_setOf_19 : decode cX6_setOf 19 = .ok (.imul, 1) := by decide +kernel
theorem dX6_setOf_20 : decode cX6_setOf 20 = .ok (.iconst 1, 1) := by decide +kernel
theorem dX6_setOf_21 : decode cX6_setOf 21 = .ok (.iadd, 1) := by decide +kernel
theorem dX6_setOf_22 : decode cX6_setOf 22 = .ok (.iaload, 1) := by decide +kernel
theorem dX6_setOf_23 : decode cX6_setOf 23 = .ok (.iload_n 1, 1) := by decide +kernel
theorem dX6_setOf_24 : decode cX6_setOf 24 = .ok (.if_icmp .ne 9, 3) := by decide +kernel
theorem dX6_setOf_27 : decode cX6_setOf 27 = .ok (.iconst 1, 1) := by decide +kernel
theorem dX6_setOf_28 : decode cX6_setOf 28 = .ok (.iload_n 3, 1) := by decide +kernel
theorem dX6_setOf_29 : decode cX6_setOf 29 = .ok (.ishl, 1) := by decide +kernel
theorem dX6_setOf_30 : decode cX6_setOf 30 = .ok (.goto 4, 3) := by decide +kernel
theorem dX6_setOf_33 : decode cX6_setOf 33 = .ok (.iconst 0, 1) := by decide +kernel
theorem dX6_setOf_34 : decode cX6_setOf 34 = .ok (.ior, 1) := by decide +kernel
theorem dX6_setOf_35 : decode cX6_setOf 35 = .ok (.istore_n 2, 1) := by decide +kernel
theorem dX6_setOf_36 : decode cX6_setOf 36 = .ok (.iinc 3 1, 3) := by decide +kernel
theorem dX6_setOf_39 : decode cX6_setOf 39 = .ok (.goto (-35), 3) := by decide +kernel
theorem dX6_setOf_42 : decode cX6_setOf 42 = .ok (.iload_n 2, 1) := by decide +kernel
theorem dX6_setOf_43 : decode cX6_setOf 43 = .ok (.ireturn, 1) := by decide +kernel
theorem dX6_ones_0 : decode cX6_ones 0 = .ok (.iconst 0, 1) := by decide +kernel
theorem dX6_ones_1 : decode cX6_ones 1 = .ok (.istore_n 1, 1) := by decide +kernel
theorem dX6_ones_2 : decode cX6_ones 2 = .ok (.iconst 0, 1) := by decide +kernel
theorem dX6_ones_3 : decode cX6_ones 3 = .ok (.istore_n 2, 1) := by decide +kernel
theorem dX6_ones_4 : decode cX6_ones 4 = .ok (.iload_n 2, 1) := by decide +kernel
theorem dX6_ones_5 : decode cX6_ones 5 = .ok (.iconst 5, 1) := by decide +kernel
theorem dX6_ones_6 : decode cX6_ones 6 = .ok (.if_icmp .ge 17, 3) := by decide +kernel
theorem dX6_ones_9 : decode cX6_ones 9 = .ok (.iload_n 1, 1) := by decide +kernel
theorem dX6_ones_10 : decode cX6_ones 10 = .ok (.iload_n 0, 1) := by decide +kernel
theorem dX6_ones_11 : decode cX6_ones 11 = .ok (.iload_n 2, 1) := by decide +kernel
theorem dX6_ones_12 : decode cX6_ones 12 = .ok (.ishr, 1) := by decide +kernel
theorem dX6_ones_13 : decode cX6_ones 13 = .ok (.iconst 1, 1) := by decide +kernel
theorem dX6_ones_14 : decode cX6_ones 14 = .ok (.iand, 1) := by decide +kernel
theorem dX6_ones_15 : decode cX6_ones 15 = .ok (.iadd, 1) := by decide +kernel
theorem dX6_ones_16 : decode cX6_ones 16 = .ok (.istore_n 1, 1) := by decide +kernel
theorem dX6_ones_17 : decode cX6_ones 17 = .ok (.iinc 2 1, 3) := by decide +kernel
theorem dX6_ones_20 : decode cX6_ones 20 = .ok (.goto (-16), 3) := by decide +kernel
theorem dX6_ones_23 : decode cX6_ones 23 = .ok (.iload_n 1, 1) := by decide +kernel
theorem dX6_ones_24 : decode cX6_ones 24 = .ok (.ireturn, 1) := by decide +kernel
theorem dX6_eggsIn_0 : decode cX6_eggsIn 0 = .ok (.iconst 0, 1) := by decide +kernel
theorem dX6_eggsIn_1 : decode cX6_eggsIn 1 = .ok (.istore_n 2, 1) := by decide +kernel
theorem dX6_eggsIn_2 : decode cX6_eggsIn 2 = .ok (.iconst 0, 1) := by decide +kernel
theorem dX6_eggsIn_3 : decode cX6_eggsIn 3 = .ok (.istore_n 3, 1) := by decide +kernel
theorem dX6_eggsIn_4 : decode cX6_eggsIn 4 = .ok (.iload_n 3, 1) := by decide +kernel
theorem dX6_eggsIn_5 : decode cX6_eggsIn 5 = .ok (.aload_n 0, 1) := by decide +kernel
theorem dX6_eggsIn_6 : decode cX6_eggsIn 6 = .ok (.getfield 75, 3) := by decide +kernel
theorem dX6_eggsIn_9 : decode cX6_eggsIn 9 = .ok (.if_icmp .ge 28, 3) := by decide +kernel
theorem dX6_eggsIn_12 : decode cX6_eggsIn 12 = .ok (.iload_n 2, 1) := by decide +kernel
theorem dX6_eggsIn_13 : decode cX6_eggsIn 13 = .ok (.iload_n 1, 1) := by decide +kernel
theorem dX6_eggsIn_14 : decode cX6_eggsIn 14 = .ok (.iload_n 3, 1) := by decide +kernel
theorem dX6_eggsIn_15 : decode cX6_eggsIn 15 = .ok (.ishr, 1) := by decide +kernel
theorem dX6_eggsIn_16 : decode cX6_eggsIn 16 = .ok (.iconst 1, 1) := by decide +kernel
theorem dX6_eggsIn_17 : decode cX6_eggsIn 17 = .ok (.iand, 1) := by decide +kernel
theorem dX6_eggsIn_18 : decode cX6_eggsIn 18 = .ok (.aload_n 0, 1) := by decide +kernel
theorem dX6_eggsIn_19 : decode cX6_eggsIn 19 = .ok (.getfield 16, 3) := by decide +kernel
theorem dX6_eggsIn_22 : decode cX6_eggsIn 22 = .ok (.iconst 4, 1) := by decide +kernel
theorem dX6_eggsIn_23 : decode cX6_eggsIn 23 = .ok (.iload_n 3, 1) := by decide +kernel
theorem dX6_eggsIn_24 : decode cX6_eggsIn 24 = .ok (.imul, 1) := by decide +kernel
theorem dX6_eggsIn_25 : decode cX6_eggsIn 25 = .ok (.iconst 3, 1) := by decide +kernel
theorem dX6_eggsIn_26 : decode cX6_eggsIn 26 = .ok (.iadd, 1) := by decide +kernel
theorem dX6_eggsIn_27 : decode cX6_eggsIn 27 = .ok (.iaload, 1) := by decide +kernel
theorem dX6_eggsIn_28 : decode cX6_eggsIn 28 = .ok (.imul, 1) := by decide +kernel
theorem dX6_eggsIn_29 : decode cX6_eggsIn 29 = .ok (.iadd, 1) := by decide +kernel
theorem dX6_eggsIn_30 : decode cX6_eggsIn 30 = .ok (.istore_n 2, 1) := by decide +kernel
theorem dX6_eggsIn_31 : decode cX6_eggsIn 31 = .ok (.iinc 3 1, 3) := by decide +kernel
theorem dX6_eggsIn_34 : decode cX6_eggsIn 34 = .ok (.goto (-30), 3) := by decide +kernel
theorem dX6_eggsIn_37 : decode cX6_eggsIn 37 = .ok (.iload_n 2, 1) := by decide +kernel
theorem dX6_eggsIn_38 : decode cX6_eggsIn 38 = .ok (.ireturn, 1) := by decide +kernel
set_option maxRecDepth 20000 in
theorem ggX6_tellKeeper_X6_setOf : GoodIn wsX6_tellKeeper wsX6_setOf := goodIn_r _ [6, 7, 8, 30, 31, 32, 33, 34, 35, 36, 37, 38, 39, 40, 41, 42, 43, 44, 45, 46, 47, 48, 49, 50, 51] (by decide +kernel) (by decide +kernel)
set_option maxRecDepth 20000 in
theorem gX6_tellKeeper_X6_setOf : GoodIn wsX6_tellKeeper (wsV RX6 95 RX6 yX6_setOf wsX6_setOf) := goodIn_app (goodIn_of _ (by decide +kernel)) ggX6_tellKeeper_X6_setOf
set_option maxRecDepth 20000 in
theorem ggX6_tellKeeper_X6_eggsIn : GoodIn wsX6_tellKeeper wsX6_eggsIn := goodIn_r _ [12, 7, 8, 30, 31, 32, 33, 34, 35, 36, 37, 38, 39, 40, 41, 42, 43, 44, 45, 46, 47, 48, 49, 50, 51] (by decide +kernel) (by decide +kernel)
set_option maxRecDepth 20000 in
theorem gX6_tellKeeper_X6_eggsIn : GoodIn wsX6_tellKeeper (wsV RX6 98 RX6 yX6_eggsIn wsX6_eggsIn) := goodIn_app (goodIn_of _ (by decide +kernel)) ggX6_tellKeeper_X6_eggsIn
set_option maxRecDepth 20000 in
theorem ggX6_tellKeeper_X6_faithsOf : GoodIn wsX6_tellKeeper wsX6_faithsOf := goodIn_r _ [16, 17, 18, 19, 5, 20, 21, 1, 22, 23, 24, 25, 30, 31, 32, 33, 34, 35, 36, 37, 38, 39, 40, 41, 42, 43, 44, 45, 46, 47, 48, 49, 50, 51] (by decide +kernel) (by decide +kernel)
set_option maxRecDepth 20000 in
theorem gX6_tellKeeper_X6_faithsOf : GoodIn wsX6_tellKeeper (wsV RX6 101 RX6 yX6_faithsOf wsX6_faithsOf) := goodIn_app (goodIn_of _ (by decide +kernel)) ggX6_tellKeeper_X6_faithsOf
set_option maxRecDepth 20000 in
theorem ggX6_tellKeeper_X6_likelyOf : GoodIn wsX6_tellKeeper wsX6_likelyOf := goodIn_r _ [29, 17, 18, 19, 5, 20, 21, 1, 22, 23, 24, 25, 30, 31, 32, 33, 34, 35, 36, 37, 38, 39, 40, 41, 42, 43, 44, 45, 46, 47, 48, 49, 50, 51] (by decide +kernel) (by decide +kernel)
set_option maxRecDepth 20000 in
theorem gX6_tellKeeper_X6_likelyOf : GoodIn wsX6_tellKeeper (wsV RX6 104 RX6 yX6_likelyOf wsX6_likelyOf) := goodIn_app (goodIn_of _ (by decide +kernel)) ggX6_tellKeeper_X6_likelyOf
theorem dX6_tellKeeper_0 : decode cX6_tellKeeper 0 = .ok (.iload_n 2, 1) := by decide +kernel
theorem dX6_tellKeeper_1 : decode cX6_tellKeeper 1 = .ok (.tableswitch 93 0 6 #[43, 43, 54, 60, 70, 81, 87], 43) := by decide +kernel
theorem dX6_tellKeeper_44 : decode cX6_tellKeeper 44 = .ok (.aload_n 0, 1) := by decide +kernel
theorem dX6_tellKeeper_45 : decode cX6_tellKeeper 45 = .ok (.getfield 13, 3) := by decide +kernel
theorem dX6_tellKeeper_48 : decode cX6_tellKeeper 48 = .ok (.iconst 3, 1) := by decide +kernel
theorem dX6_tellKeeper_49 : decode cX6_tellKeeper 49 = .ok (.iload_n 1, 1) := by decide +kernel
theorem dX6_tellKeeper_50 : decode cX6_tellKeeper 50 = .ok (.imul, 1) := by decide +kernel
theorem dX6_tellKeeper_51 : decode cX6_tellKeeper 51 = .ok (.iload_n 2, 1) := by decide +kernel
theorem dX6_tellKeeper_52 : decode cX6_tellKeeper 52 = .ok (.iadd, 1) := by decide +kernel
theorem dX6_tellKeeper_53 : decode cX6_tellKeeper 53 = .ok (.iaload, 1) := by decide +kernel
theorem dX6_tellKeeper_54 : decode cX6_tellKeeper 54 = .ok (.ireturn, 1) := by decide +kernel
theorem dX6_tellKeeper_55 : decode cX6_tellKeeper 55 = .ok (.aload_n 0, 1) := by decide +kernel
theorem dX6_tellKeeper_56 : decode cX6_tellKeeper 56 = .ok (.iload_n 1, 1) := by decide +kernel
theorem dX6_tellKeeper_57 : decode cX6_tellKeeper 57 = .ok (.invokevirtual 95, 3) := by decide +kernel
theorem dX6_tellKeeper_60 : decode cX6_tellKeeper 60 = .ok (.ireturn, 1) := by decide +kernel
theorem dX6_tellKeeper_61 : decode cX6_tellKeeper 61 = .ok (.aload_n 0, 1) := by decide +kernel
theorem dX6_tellKeeper_62 : decode cX6_tellKeeper 62 = .ok (.aload_n 0, 1) := by decide +kernel
theorem dX6_tellKeeper_63 : decode cX6_tellKeeper 63 = .ok (.iload_n 1, 1) := by decide +kernel
theorem dX6_tellKeeper_64 : decode cX6_tellKeeper 64 = .ok (.invokevirtual 95, 3) := by decide +kernel
theorem dX6_tellKeeper_67 : decode cX6_tellKeeper 67 = .ok (.invokevirtual 98, 3) := by decide +kernel
theorem dX6_tellKeeper_70 : decode cX6_tellKeeper 70 = .ok (.ireturn, 1) := by decide +kernel
theorem dX6_tellKeeper_71 : decode cX6_tellKeeper 71 = .ok (.aload_n 0, 1) := by decide +kernel
theorem dX6_tellKeeper_72 : decode cX6_tellKeeper 72 = .ok (.getfield 13, 3) := by decide +kernel
theorem dX6_tellKeeper_75 : decode cX6_tellKeeper 75 = .ok (.iconst 3, 1) := by decide +kernel
theorem dX6_tellKeeper_76 : decode cX6_tellKeeper 76 = .ok (.iload_n 1, 1) := by decide +kernel
theorem dX6_tellKeeper_77 : decode cX6_tellKeeper 77 = .ok (.imul, 1) := by decide +kernel
theorem dX6_tellKeeper_78 : decode cX6_tellKeeper 78 = .ok (.iconst 2, 1) := by decide +kernel
theorem dX6_tellKeeper_79 : decode cX6_tellKeeper 79 = .ok (.iadd, 1) := by decide +kernel
theorem dX6_tellKeeper_80 : decode cX6_tellKeeper 80 = .ok (.iaload, 1) := by decide +kernel
theorem dX6_tellKeeper_81 : decode cX6_tellKeeper 81 = .ok (.ireturn, 1) := by decide +kernel
theorem dX6_tellKeeper_82 : decode cX6_tellKeeper 82 = .ok (.aload_n 0, 1) := by decide +kernel
theorem dX6_tellKeeper_83 : decode cX6_tellKeeper 83 = .ok (.iload_n 1, 1) := by decide +kernel
theorem dX6_tellKeeper_84 : decode cX6_tellKeeper 84 = .ok (.invokevirtual 101, 3) := by decide +kernel
theorem dX6_tellKeeper_87 : decode cX6_tellKeeper 87 = .ok (.ireturn, 1) := by decide +kernel
theorem dX6_tellKeeper_88 : decode cX6_tellKeeper 88 = .ok (.aload_n 0, 1) := by decide +kernel
theorem dX6_tellKeeper_89 : decode cX6_tellKeeper 89 = .ok (.iload_n 1, 1) := by decide +kernel
theorem dX6_tellKeeper_90 : decode cX6_tellKeeper 90 = .ok (.invokevirtual 104, 3) := by decide +kernel
theorem dX6_tellKeeper_93 : decode cX6_tellKeeper 93 = .ok (.ireturn, 1) := by decide +kernel
theorem dX6_tellKeeper_94 : decode cX6_tellKeeper 94 = .ok (.bipush (-102), 2) := by decide +kernel
theorem dX6_tellKeeper_96 : decode cX6_tellKeeper 96 = .ok (.ireturn, 1) := by decide +kernel
set_option maxRecDepth 20000 in
theorem ggX6_keeper_X6_isKeeper : GoodIn wsX6_keeper wsX6_isKeeper := goodIn_r _ [5, 6, 7, 8, 4, 9, 42, 43, 44, 45, 46, 47, 48, 49, 50, 51, 52, 53, 54, 55, 56, 57, 58, 59, 60, 61, 62, 63] (by decide +kernel) (by decide +kernel)
set_option maxRecDepth 20000 in
theorem gX6_keeper_X6_isKeeper : GoodIn wsX6_keeper (wsV RX6 107 RX6 yX6_isKeeper wsX6_isKeeper) := goodIn_app (goodIn_of _ (by decide +kernel)) ggX6_keeper_X6_isKeeper
set_option maxRecDepth 20000 in
theorem ggX6_keeper_X6_tellKeeper : GoodIn wsX6_keeper wsX6_tellKeeper := goodIn_r _ [13, 14, 15, 16, 17, 4, 18, 19, 20, 21, 22, 23, 24, 25, 26, 27, 28, 29, 30, 31, 32, 33, 34, 35, 36, 37, 38, 39, 40, 41, 42, 43, 44, 45, 46, 47, 48, 49, 50, 51, 52, 53, 54, 55, 56, 57, 58, 59, 60, 61, 62, 63] (by decide +kernel) (by decide +kernel)
set_option maxRecDepth 20000 in
theorem gX6_keeper_X6_tellKeeper : GoodIn wsX6_keeper (wsV RX6 110 RX6 yX6_tellKeeper wsX6_tellKeeper) := goodIn_app (goodIn_of _ (by decide +kernel)) ggX6_keeper_X6_tellKeeper
theorem dX6_keeper_0 : decode cX6_keeper 0 = .ok (.aload_n 0, 1) := by decide +kernel
theorem dX6_keeper_1 : decode cX6_keeper 1 = .ok (.iload_n 1, 1) := by decide +kernel
theorem dX6_keeper_2 : decode cX6_keeper 2 = .ok (.invokevirtual 107, 3) := by decide +kernel
theorem dX6_keeper_5 : decode cX6_keeper 5 = .ok (.ifCond .eq 12, 3) := by decide +kernel
theorem dX6_keeper_8 : decode cX6_keeper 8 = .ok (.aload_n 0, 1) := by decide +kernel
theorem dX6_keeper_9 : decode cX6_keeper 9 = .ok (.iload_n 1, 1) := by decide +kernel
theorem dX6_keeper_10 : decode cX6_keeper 10 = .ok (.iload_n 2, 1) := by decide +kernel
theorem dX6_keeper_11 : decode cX6_keeper 11 = .ok (.invokevirtual 110, 3) := by decide +kernel
theorem dX6_keeper_14 : decode cX6_keeper 14 = .ok (.goto 5, 3) := by decide +kernel
theorem dX6_keeper_17 : decode cX6_keeper 17 = .ok (.bipush (-101), 2) := by decide +kernel
theorem dX6_keeper_19 : decode cX6_keeper 19 = .ok (.ireturn, 1) := by decide +kernel
end
section
set_option maxRecDepth 20000 in
theorem ggX6_as_X6_isKeeper : GoodIn wsX6_as wsX6_isKeeper := goodIn_r _ [7, 8, 9, 10, 6, 11, 12, 13, 14, 15, 16, 17, 18, 19, 20, 21, 22, 23, 24, 25, 26, 27, 28, 29, 30, 31, 32, 33] (by decide +kernel) (by decide +kernel)
set_option maxRecDepth 20000 in
theorem gX6_as_X6_isKeeper : GoodIn wsX6_as (wsV RX6 107 RX6 yX6_isKeeper wsX6_isKeeper) := goodIn_app (goodIn_of _ (by decide +kernel)) ggX6_as_X6_isKeeper
set_option maxRecDepth 20000 in
theorem ggX6_as_X6_in : GoodIn wsX6_as wsX6_in := goodIn_r _ [11] (by decide +kernel) (by decide +kernel)
set_option maxRecDepth 20000 in
theorem gX6_as_X6_in : GoodIn wsX6_as (va_wsS RX6 46 yX6_in wsX6_in) := goodIn_app (goodIn_of _ (by decide +kernel)) ggX6_as_X6_in
theorem dX6_as_0 : decode cX6_as 0 = .ok (.aload_n 0, 1) := by decide +kernel
theorem dX6_as_1 : decode cX6_as 1 = .ok (.iload_n 1, 1) := by decide +kernel
theorem dX6_as_2 : decode cX6_as 2 = .ok (.invokevirtual 107, 3) := by decide +kernel
theorem dX6_as_5 : decode cX6_as 5 = .ok (.ifCond .ne 6, 3) := by decide +kernel
theorem dX6_as_8 : decode cX6_as 8 = .ok (.bipush (-101), 2) := by decide +kernel
theorem dX6_as_10 : decode cX6_as 10 = .ok (.ireturn, 1) := by decide +kernel
theorem dX6_as_11 : decode cX6_as 11 = .ok (.iload_n 2, 1) := by decide +kernel
theorem dX6_as_12 : decode cX6_as 12 = .ok (.i2l, 1) := by decide +kernel
theorem dX6_as_13 : decode cX6_as 13 = .ok (.lconst 0, 1) := by decide +kernel
theorem dX6_as_14 : decode cX6_as 14 = .ok (.ldc2_w 114, 3) := by decide +kernel
theorem dX6_as_17 : decode cX6_as 17 = .ok (.invokestatic 46, 3) := by decide +kernel
theorem dX6_as_20 : decode cX6_as 20 = .ok (.ifCond .ne 6, 3) := by decide +kernel
theorem dX6_as_23 : decode cX6_as 23 = .ok (.bipush (-102), 2) := by decide +kernel
theorem dX6_as_25 : decode cX6_as 25 = .ok (.ireturn, 1) := by decide +kernel
theorem dX6_as_26 : decode cX6_as 26 = .ok (.aload_n 0, 1) := by decide +kernel
theorem dX6_as_27 : decode cX6_as 27 = .ok (.getfield 13, 3) := by decide +kernel
theorem dX6_as_30 : decode cX6_as 30 = .ok (.iconst 3, 1) := by decide +kernel
theorem dX6_as_31 : decode cX6_as 31 = .ok (.iload_n 1, 1) := by decide +kernel
theorem dX6_as_32 : decode cX6_as 32 = .ok (.imul, 1) := by decide +kernel
theorem dX6_as_33 : decode cX6_as 33 = .ok (.iaload, 1) := by decide +kernel
theorem dX6_as_34 : decode cX6_as 34 = .ok (.istore_n 3, 1) := by decide +kernel
theorem dX6_as_35 : decode cX6_as 35 = .ok (.iload_n 2, 1) := by decide +kernel
theorem dX6_as_36 : decode cX6_as 36 = .ok (.ifCond .eq 18, 3) := by decide +kernel
theorem dX6_as_39 : decode cX6_as 39 = .ok (.iload_n 2, 1) := by decide +kernel
theorem dX6_as_40 : decode cX6_as 40 = .ok (.iload_n 3, 1) := by decide +kernel
theorem dX6_as_41 : decode cX6_as 41 = .ok (.if_icmp .eq 13, 3) := by decide +kernel
theorem dX6_as_44 : decode cX6_as 44 = .ok (.iload_n 2, 1) := by decide +kernel
theorem dX6_as_45 : decode cX6_as 45 = .ok (.iconst 1, 1) := by decide +kernel
theorem dX6_as_46 : decode cX6_as 46 = .ok (.if_icmp .ne 12, 3) := by decide +kernel
theorem dX6_as_49 : decode cX6_as 49 = .ok (.iload_n 3, 1) := by decide +kernel
theorem dX6_as_50 : decode cX6_as 50 = .ok (.iconst 4, 1) := by decide +kernel
theorem dX6_as_51 : decode cX6_as 51 = .ok (.if_icmp .ne 7, 3) := by decide +kernel
theorem dX6_as_54 : decode cX6_as 54 = .ok (.iconst 1, 1) := by decide +kernel
theorem dX6_as_55 : decode cX6_as 55 = .ok (.goto 4, 3) := by decide +kernel
theorem dX6_as_58 : decode cX6_as 58 = .ok (.iconst 0, 1) := by decide +kernel
theorem dX6_as_59 : decode cX6_as 59 = .ok (.istore 4, 2) := by decide +kernel
theorem dX6_as_61 : decode cX6_as 61 = .ok (.iload 4, 2) := by decide +kernel
theorem dX6_as_63 : decode cX6_as 63 = .ok (.ifCond .eq 7, 3) := by decide +kernel
theorem dX6_as_66 : decode cX6_as 66 = .ok (.iload_n 1, 1) := by decide +kernel
theorem dX6_as_67 : decode cX6_as 67 = .ok (.goto 4, 3) := by decide +kernel
theorem dX6_as_70 : decode cX6_as 70 = .ok (.iconst (-1), 1) := by decide +kernel
theorem dX6_as_71 : decode cX6_as 71 = .ok (.ireturn, 1) := by decide +kernel
set_option maxRecDepth 20000 in
theorem ggX6_keeps_X6_isKeeper : GoodIn wsX6_keeps wsX6_isKeeper := goodIn_r _ [6, 7, 8, 9, 5, 10, 19, 20, 21, 22, 23, 24, 25, 26, 27, 28, 29, 30, 31, 32, 33, 34, 35, 36, 37, 38, 39, 40] (by decide +kernel) (by decide +kernel)
set_option maxRecDepth 20000 in
theorem gX6_keeps_X6_isKeeper : GoodIn wsX6_keeps (wsV RX6 107 RX6 yX6_isKeeper wsX6_isKeeper) := goodIn_app (goodIn_of _ (by decide +kernel)) ggX6_keeps_X6_isKeeper
set_option maxRecDepth 20000 in
theorem ggX6_keeps_X6_in : GoodIn wsX6_keeps wsX6_in := goodIn_r _ [10] (by decide +kernel) (by decide +kernel)
set_option maxRecDepth 20000 in
theorem gX6_keeps_X6_in : GoodIn wsX6_keeps (va_wsS RX6 46 yX6_in wsX6_in) := goodIn_app (goodIn_of _ (by decide +kernel)) ggX6_keeps_X6_in
set_option maxRecDepth 20000 in
theorem ggX6_keeps_X6_tenthsOf : GoodIn wsX6_keeps wsX6_tenthsOf := goodIn_r _ [14, 15, 16, 17, 5, 18, 19, 20, 21, 22, 23, 24, 25, 26, 27, 28, 29, 30, 31, 32, 33, 34, 35, 36, 37, 38, 39, 40] (by decide +kernel) (by decide +kernel)
set_option maxRecDepth 20000 in
theorem gX6_keeps_X6_tenthsOf : GoodIn wsX6_keeps (wsV RX6 118 RX6 yX6_tenthsOf wsX6_tenthsOf) := goodIn_app (goodIn_of _ (by decide +kernel)) ggX6_keeps_X6_tenthsOf
theorem dX6_keeps_0 : decode cX6_keeps 0 = .ok (.aload_n 0, 1) := by decide +kernel
theorem dX6_keeps_1 : decode cX6_keeps 1 = .ok (.iload_n 1, 1) := by decide +kernel
theorem dX6_keeps_2 : decode cX6_keeps 2 = .ok (.invokevirtual 107, 3) := by decide +kernel
theorem dX6_keeps_5 : decode cX6_keeps 5 = .ok (.ifCond .ne 6, 3) := by decide +kernel
theorem dX6_keeps_8 : decode cX6_keeps 8 = .ok (.bipush (-101), 2) := by decide +kernel
theorem dX6_keeps_10 : decode cX6_keeps 10 = .ok (.ireturn, 1) := by decide +kernel
theorem dX6_keeps_11 : decode cX6_keeps 11 = .ok (.iload_n 2, 1) := by decide +kernel
theorem dX6_keeps_12 : decode cX6_keeps 12 = .ok (.i2l, 1) := by decide +kernel
theorem dX6_keeps_13 : decode cX6_keeps 13 = .ok (.lconst 0, 1) := by decide +kernel
theorem dX6_keeps_14 : decode cX6_keeps 14 = .ok (.ldc2_w 116, 3) := by decide +kernel
theorem dX6_keeps_17 : decode cX6_keeps 17 = .ok (.invokestatic 46, 3) := by decide +kernel
theorem dX6_keeps_20 : decode cX6_keeps 20 = .ok (.ifCond .eq 12, 3) := by decide +kernel
theorem dX6_keeps_23 : decode cX6_keeps 23 = .ok (.aload_n 0, 1) := by decide +kernel
theorem dX6_keeps_24 : decode cX6_keeps 24 = .ok (.iload_n 1, 1) := by decide +kernel
theorem dX6_keeps_25 : decode cX6_keeps 25 = .ok (.iload_n 2, 1) := by decide +kernel
theorem dX6_keeps_26 : decode cX6_keeps 26 = .ok (.invokevirtual 118, 3) := by decide +kernel
theorem dX6_keeps_29 : decode cX6_keeps 29 = .ok (.goto 5, 3) := by decide +kernel
theorem dX6_keeps_32 : decode cX6_keeps 32 = .ok (.bipush (-102), 2) := by decide +kernel
theorem dX6_keeps_34 : decode cX6_keeps 34 = .ok (.ireturn, 1) := by decide +kernel
set_option maxRecDepth 20000 in
theorem ggX6_tenthsIn_X6_tenthsOf : GoodIn wsX6_tenthsIn wsX6_tenthsOf := goodIn_r _ [6, 7, 8, 9, 5, 10, 11, 12, 13, 14, 15, 16, 17, 18, 19, 20, 21, 22, 23, 24, 25, 26, 27, 28, 29, 30, 31, 32] (by decide +kernel) (by decide +kernel)
set_option maxRecDepth 20000 in
theorem gX6_tenthsIn_X6_tenthsOf : GoodIn wsX6_tenthsIn (wsV RX6 118 RX6 yX6_tenthsOf wsX6_tenthsOf) := goodIn_app (goodIn_of _ (by decide +kernel)) ggX6_tenthsIn_X6_tenthsOf
theorem dX6_tenthsIn_0 : decode cX6_tenthsIn 0 = .ok (.aload_n 0, 1) := by decide +kernel
theorem dX6_tenthsIn_1 : decode cX6_tenthsIn 1 = .ok (.getfield 16, 3) := by decide +kernel
theorem dX6_tenthsIn_4 : decode cX6_tenthsIn 4 = .ok (.iconst 4, 1) := by decide +kernel
theorem dX6_tenthsIn_5 : decode cX6_tenthsIn 5 = .ok (.iload_n 1, 1) := by decide +kernel
theorem dX6_tenthsIn_6 : decode cX6_tenthsIn 6 = .ok (.imul, 1) := by decide +kernel
theorem dX6_tenthsIn_7 : decode cX6_tenthsIn 7 = .ok (.iconst 1, 1) := by decide +kernel
theorem dX6_tenthsIn_8 : decode cX6_tenthsIn 8 = .ok (.iadd, 1) := by decide +kernel
theorem dX6_tenthsIn_9 : decode cX6_tenthsIn 9 = .ok (.iaload, 1) := by decide +kernel
theorem dX6_tenthsIn_10 : decode cX6_tenthsIn 10 = .ok (.iconst (-1), 1) := by decide +kernel
theorem dX6_tenthsIn_11 : decode cX6_tenthsIn 11 = .ok (.if_icmp .ne 7, 3) := by decide +kernel
theorem dX6_tenthsIn_14 : decode cX6_tenthsIn 14 = .ok (.iconst (-1), 1) := by decide +kernel
theorem dX6_tenthsIn_15 : decode cX6_tenthsIn 15 = .ok (.goto 25, 3) := by decide +kernel
theorem dX6_tenthsIn_18 : decode cX6_tenthsIn 18 = .ok (.aload_n 0, 1) := by decide +kernel
theorem dX6_tenthsIn_19 : decode cX6_tenthsIn 19 = .ok (.aload_n 0, 1) := by decide +kernel
theorem dX6_tenthsIn_20 : decode cX6_tenthsIn 20 = .ok (.getfield 16, 3) := by decide +kernel
theorem dX6_tenthsIn_23 : decode cX6_tenthsIn 23 = .ok (.iconst 4, 1) := by decide +kernel
theorem dX6_tenthsIn_24 : decode cX6_tenthsIn 24 = .ok (.iload_n 1, 1) := by decide +kernel
theorem dX6_tenthsIn_25 : decode cX6_tenthsIn 25 = .ok (.imul, 1) := by decide +kernel
theorem dX6_tenthsIn_26 : decode cX6_tenthsIn 26 = .ok (.iconst 1, 1) := by decide +kernel
theorem dX6_tenthsIn_27 : decode cX6_tenthsIn 27 = .ok (.iadd, 1) := by decide +kernel
theorem dX6_tenthsIn_28 : decode cX6_tenthsIn 28 = .ok (.iaload, 1) := by decide +kernel
theorem dX6_tenthsIn_29 : decode cX6_tenthsIn 29 = .ok (.aload_n 0, 1) := by decide +kernel
theorem dX6_tenthsIn_30 : decode cX6_tenthsIn 30 = .ok (.getfield 16, 3) := by decide +kernel
theorem dX6_tenthsIn_33 : decode cX6_tenthsIn 33 = .ok (.iconst 4, 1) := by decide +kernel
theorem dX6_tenthsIn_34 : decode cX6_tenthsIn 34 = .ok (.iload_n 1, 1) := by decide +kernel
theorem dX6_tenthsIn_35 : decode cX6_tenthsIn 35 = .ok (.imul, 1) := by decide +kernel
theorem dX6_tenthsIn_36 : decode cX6_tenthsIn 36 = .ok (.iaload, 1) := by decide +kernel
theorem dX6_tenthsIn_37 : decode cX6_tenthsIn 37 = .ok (.invokevirtual 118, 3) := by decide +kernel
theorem dX6_tenthsIn_40 : decode cX6_tenthsIn 40 = .ok (.ireturn, 1) := by decide +kernel
set_option maxRecDepth 20000 in
theorem ggX6_tellHole_X6_in : GoodIn wsX6_tellHole wsX6_in := goodIn_r _ [6] (by decide +kernel) (by decide +kernel)
set_option maxRecDepth 20000 in
theorem gX6_tellHole_X6_in : GoodIn wsX6_tellHole (va_wsS RX6 46 yX6_in wsX6_in) := goodIn_app (goodIn_of _ (by decide +kernel)) ggX6_tellHole_X6_in
set_option maxRecDepth 20000 in
theorem ggX6_tellHole_X6_tenthsIn : GoodIn wsX6_tellHole wsX6_tenthsIn := goodIn_r _ [10, 2, 11, 12, 13, 5, 14, 15, 16, 17, 18, 19, 20, 21, 22, 23, 24, 25, 26, 27, 28, 29, 30, 31, 32, 33, 34, 35, 36, 37, 38, 39, 40] (by decide +kernel) (by decide +kernel)
set_option maxRecDepth 20000 in
theorem gX6_tellHole_X6_tenthsIn : GoodIn wsX6_tellHole (wsV RX6 123 RX6 yX6_tenthsIn wsX6_tenthsIn) := goodIn_app (goodIn_of _ (by decide +kernel)) ggX6_tellHole_X6_tenthsIn
theorem dX6_tellHole_0 : decode cX6_tellHole 0 = .ok (.iload_n 2, 1) := by decide +kernel
theorem dX6_tellHole_1 : decode cX6_tellHole 1 = .ok (.i2l, 1) := by decide +kernel
theorem dX6_tellHole_2 : decode cX6_tellHole 2 = .ok (.lconst 0, 1) := by decide +kernel
theorem dX6_tellHole_3 : decode cX6_tellHole 3 = .ok (.ldc2_w 121, 3) := by decide +kernel
theorem dX6_tellHole_6 : decode cX6_tellHole 6 = .ok (.invokestatic 46, 3) := by decide +kernel
theorem dX6_tellHole_9 : decode cX6_tellHole 9 = .ok (.ifCond .eq 16, 3) := by decide +kernel
theorem dX6_tellHole_12 : decode cX6_tellHole 12 = .ok (.aload_n 0, 1) := by decide +kernel
theorem dX6_tellHole_13 : decode cX6_tellHole 13 = .ok (.getfield 16, 3) := by decide +kernel
theorem dX6_tellHole_16 : decode cX6_tellHole 16 = .ok (.iconst 4, 1) := by decide +kernel
theorem dX6_tellHole_17 : decode cX6_tellHole 17 = .ok (.iload_n 1, 1) := by decide +kernel
theorem dX6_tellHole_18 : decode cX6_tellHole 18 = .ok (.imul, 1) := by decide +kernel
theorem dX6_tellHole_19 : decode cX6_tellHole 19 = .ok (.iload_n 2, 1) := by decide +kernel
theorem dX6_tellHole_20 : decode cX6_tellHole 20 = .ok (.iadd, 1) := by decide +kernel
theorem dX6_tellHole_21 : decode cX6_tellHole 21 = .ok (.iaload, 1) := by decide +kernel
theorem dX6_tellHole_22 : decode cX6_tellHole 22 = .ok (.goto 18, 3) := by decide +kernel
theorem dX6_tellHole_25 : decode cX6_tellHole 25 = .ok (.iload_n 2, 1) := by decide +kernel
theorem dX6_tellHole_26 : decode cX6_tellHole 26 = .ok (.iconst 4, 1) := by decide +kernel
theorem dX6_tellHole_27 : decode cX6_tellHole 27 = .ok (.if_icmp .ne 11, 3) := by decide +kernel
theorem dX6_tellHole_30 : decode cX6_tellHole 30 = .ok (.aload_n 0, 1) := by decide +kernel
theorem dX6_tellHole_31 : decode cX6_tellHole 31 = .ok (.iload_n 1, 1) := by decide +kernel
theorem dX6_tellHole_32 : decode cX6_tellHole 32 = .ok (.invokevirtual 123, 3) := by decide +kernel
theorem dX6_tellHole_35 : decode cX6_tellHole 35 = .ok (.goto 5, 3) := by decide +kernel
theorem dX6_tellHole_38 : decode cX6_tellHole 38 = .ok (.bipush (-102), 2) := by decide +kernel
theorem dX6_tellHole_40 : decode cX6_tellHole 40 = .ok (.ireturn, 1) := by decide +kernel
set_option maxRecDepth 20000 in
theorem ggX6_hole_X6_isHole : GoodIn wsX6_hole wsX6_isHole := goodIn_r _ [5, 6, 7, 8, 4, 9, 28, 29, 30, 31, 32, 33, 34, 35, 36, 37, 38, 39, 40, 41, 42, 43, 44, 45, 46, 47, 48, 49] (by decide +kernel) (by decide +kernel)
set_option maxRecDepth 20000 in
theorem gX6_hole_X6_isHole : GoodIn wsX6_hole (wsV RX6 126 RX6 yX6_isHole wsX6_isHole) := goodIn_app (goodIn_of _ (by decide +kernel)) ggX6_hole_X6_isHole
set_option maxRecDepth 20000 in
theorem ggX6_hole_X6_tellHole : GoodIn wsX6_hole wsX6_tellHole := goodIn_r _ [13, 14, 15, 7, 8, 4, 9, 16, 17, 18, 19, 20, 21, 22, 23, 24, 25, 26, 27, 28, 29, 30, 31, 32, 33, 34, 35, 36, 37, 38, 39, 40, 41, 42, 43, 44, 45, 46, 47, 48, 49] (by decide +kernel) (by decide +kernel)
set_option maxRecDepth 20000 in
theorem gX6_hole_X6_tellHole : GoodIn wsX6_hole (wsV RX6 129 RX6 yX6_tellHole wsX6_tellHole) := goodIn_app (goodIn_of _ (by decide +kernel)) ggX6_hole_X6_tellHole
theorem dX6_hole_0 : decode cX6_hole 0 = .ok (.aload_n 0, 1) := by decide +kernel
theorem dX6_hole_1 : decode cX6_hole 1 = .ok (.iload_n 1, 1) := by decide +kernel
theorem dX6_hole_2 : decode cX6_hole 2 = .ok (.invokevirtual 126, 3) := by decide +kernel
theorem dX6_hole_5 : decode cX6_hole 5 = .ok (.ifCond .eq 12, 3) := by decide +kernel
theorem dX6_hole_8 : decode cX6_hole 8 = .ok (.aload_n 0, 1) := by decide +kernel
theorem dX6_hole_9 : decode cX6_hole 9 = .ok (.iload_n 1, 1) := by decide +kernel
theorem dX6_hole_10 : decode cX6_hole 10 = .ok (.iload_n 2, 1) := by decide +kernel
theorem dX6_hole_11 : decode cX6_hole 11 = .ok (.invokevirtual 129, 3) := by decide +kernel
theorem dX6_hole_14 : decode cX6_hole 14 = .ok (.goto 5, 3) := by decide +kernel
theorem dX6_hole_17 : decode cX6_hole 17 = .ok (.bipush (-101), 2) := by decide +kernel
theorem dX6_hole_19 : decode cX6_hole 19 = .ok (.ireturn, 1) := by decide +kernel
set_option maxRecDepth 20000 in
theorem ggX6_let_X6_isHole : GoodIn wsX6_let wsX6_isHole := goodIn_r _ [6, 7, 8, 9, 5, 10, 23, 24, 25, 26, 27, 28, 29, 30, 31, 32, 33, 34, 35, 36, 37, 38, 39, 40, 41, 42, 43, 44] (by decide +kernel) (by decide +kernel)
set_option maxRecDepth 20000 in
theorem gX6_let_X6_isHole : GoodIn wsX6_let (wsV RX6 126 RX6 yX6_isHole wsX6_isHole) := goodIn_app (goodIn_of _ (by decide +kernel)) ggX6_let_X6_isHole
set_option maxRecDepth 20000 in
theorem ggX6_let_X6_isKeeper : GoodIn wsX6_let wsX6_isKeeper := goodIn_r _ [14, 15, 8, 9, 5, 10, 23, 24, 25, 26, 27, 28, 29, 30, 31, 32, 33, 34, 35, 36, 37, 38, 39, 40, 41, 42, 43, 44] (by decide +kernel) (by decide +kernel)
set_option maxRecDepth 20000 in
theorem gX6_let_X6_isKeeper : GoodIn wsX6_let (wsV RX6 107 RX6 yX6_isKeeper wsX6_isKeeper) := goodIn_app (goodIn_of _ (by decide +kernel)) ggX6_let_X6_isKeeper
set_option maxRecDepth 20000 in
theorem ggX6_let_X6_setOf : GoodIn wsX6_let wsX6_setOf := goodIn_r _ [19, 7, 1, 23, 24, 25, 26, 27, 28, 29, 30, 31, 32, 33, 34, 35, 36, 37, 38, 39, 40, 41, 42, 43, 44] (by decide +kernel) (by decide +kernel)
set_option maxRecDepth 20000 in
theorem gX6_let_X6_setOf : GoodIn wsX6_let (wsV RX6 95 RX6 yX6_setOf wsX6_setOf) := goodIn_app (goodIn_of _ (by decide +kernel)) ggX6_let_X6_setOf
set_option maxRecDepth 20000 in
theorem ggX6_let_X6_ones : GoodIn wsX6_let wsX6_ones := goodIn_r _ [22] (by decide +kernel) (by decide +kernel)
set_option maxRecDepth 20000 in
theorem gX6_let_X6_ones : GoodIn wsX6_let (va_wsS RX6 132 yX6_ones wsX6_ones) := goodIn_app (goodIn_of _ (by decide +kernel)) ggX6_let_X6_ones
theorem dX6_let_0 : decode cX6_let 0 = .ok (.aload_n 0, 1) := by decide +kernel
theorem dX6_let_1 : decode cX6_let 1 = .ok (.iload_n 1, 1) := by decide +kernel
theorem dX6_let_2 : decode cX6_let 2 = .ok (.invokevirtual 126, 3) := by decide +kernel
theorem dX6_let_5 : decode cX6_let 5 = .ok (.ifCond .eq 11, 3) := by decide +kernel
theorem dX6_let_8 : decode cX6_let 8 = .ok (.aload_n 0, 1) := by decide +kernel
theorem dX6_let_9 : decode cX6_let 9 = .ok (.iload_n 2, 1) := by decide +kernel
theorem dX6_let_10 : decode cX6_let 10 = .ok (.invokevirtual 107, 3) := by decide +kernel
theorem dX6_let_13 : decode cX6_let 13 = .ok (.ifCond .ne 6, 3) := by decide +kernel
theorem dX6_let_16 : decode cX6_let 16 = .ok (.bipush (-101), 2) := by decide +kernel
theorem dX6_let_18 : decode cX6_let 18 = .ok (.ireturn, 1) := by decide +kernel
theorem dX6_let_19 : decode cX6_let 19 = .ok (.aload_n 0, 1) := by decide +kernel
theorem dX6_let_20 : decode cX6_let 20 = .ok (.getfield 16, 3) := by decide +kernel
theorem dX6_let_23 : decode cX6_let 23 = .ok (.iconst 4, 1) := by decide +kernel
theorem dX6_let_24 : decode cX6_let 24 = .ok (.iload_n 1, 1) := by decide +kernel
theorem dX6_let_25 : decode cX6_let 25 = .ok (.imul, 1) := by decide +kernel
theorem dX6_let_26 : decode cX6_let 26 = .ok (.iconst 2, 1) := by decide +kernel
theorem dX6_let_27 : decode cX6_let 27 = .ok (.iadd, 1) := by decide +kernel
theorem dX6_let_28 : decode cX6_let 28 = .ok (.iaload, 1) := by decide +kernel
theorem dX6_let_29 : decode cX6_let 29 = .ok (.ifCond .ne 15, 3) := by decide +kernel
theorem dX6_let_32 : decode cX6_let 32 = .ok (.aload_n 0, 1) := by decide +kernel
theorem dX6_let_33 : decode cX6_let 33 = .ok (.iload_n 2, 1) := by decide +kernel
theorem dX6_let_34 : decode cX6_let 34 = .ok (.invokevirtual 95, 3) := by decide +kernel
theorem dX6_let_37 : decode cX6_let 37 = .ok (.invokestatic 132, 3) := by decide +kernel
theorem dX6_let_40 : decode cX6_let 40 = .ok (.iconst 2, 1) := by decide +kernel
theorem dX6_let_41 : decode cX6_let 41 = .ok (.if_icmp .ne 6, 3) := by decide +kernel
theorem dX6_let_44 : decode cX6_let 44 = .ok (.bipush (-103), 2) := by decide +kernel
theorem dX6_let_46 : decode cX6_let 46 = .ok (.ireturn, 1) := by decide +kernel
theorem dX6_let_47 : decode cX6_let 47 = .ok (.aload_n 0, 1) := by decide +kernel
theorem dX6_let_48 : decode cX6_let 48 = .ok (.getfield 16, 3) := by decide +kernel
theorem dX6_let_51 : decode cX6_let 51 = .ok (.iconst 4, 1) := by decide +kernel
theorem dX6_let_52 : decode cX6_let 52 = .ok (.iload_n 1, 1) := by decide +kernel
theorem dX6_let_53 : decode cX6_let 53 = .ok (.imul, 1) := by decide +kernel
theorem dX6_let_54 : decode cX6_let 54 = .ok (.iconst 1, 1) := by decide +kernel
theorem dX6_let_55 : decode cX6_let 55 = .ok (.iadd, 1) := by decide +kernel
theorem dX6_let_56 : decode cX6_let 56 = .ok (.iload_n 2, 1) := by decide +kernel
theorem dX6_let_57 : decode cX6_let 57 = .ok (.iastore, 1) := by decide +kernel
theorem dX6_let_58 : decode cX6_let 58 = .ok (.aload_n 0, 1) := by decide +kernel
theorem dX6_let_59 : decode cX6_let 59 = .ok (.getfield 16, 3) := by decide +kernel
theorem dX6_let_62 : decode cX6_let 62 = .ok (.iconst 4, 1) := by decide +kernel
theorem dX6_let_63 : decode cX6_let 63 = .ok (.iload_n 1, 1) := by decide +kernel
theorem dX6_let_64 : decode cX6_let 64 = .ok (.imul, 1) := by decide +kernel
theorem dX6_let_65 : decode cX6_let 65 = .ok (.iconst 2, 1) := by decide +kernel
theorem dX6_let_66 : decode cX6_let 66 = .ok (.iadd, 1) := by decide +kernel
theorem dX6_let_67 : decode cX6_let 67 = .ok (.iconst 1, 1) := by decide +kernel
theorem dX6_let_68 : decode cX6_let 68 = .ok (.iastore, 1) := by decide +kernel
theorem dX6_let_69 : decode cX6_let 69 = .ok (.aload_n 0, 1) := by decide +kernel
theorem dX6_let_70 : decode cX6_let 70 = .ok (.iload_n 2, 1) := by decide +kernel
theorem dX6_let_71 : decode cX6_let 71 = .ok (.invokevirtual 95, 3) := by decide +kernel
theorem dX6_let_74 : decode cX6_let 74 = .ok (.invokestatic 132, 3) := by decide +kernel
theorem dX6_let_77 : decode cX6_let 77 = .ok (.ireturn, 1) := by decide +kernel
set_option maxRecDepth 20000 in
theorem ggX6_leave_X6_isHole : GoodIn wsX6_leave wsX6_isHole := goodIn_r _ [6, 7, 8, 9, 5, 10, 15, 16, 17, 18, 19, 20, 21, 22, 23, 24, 25, 26, 27, 28, 29, 30, 31, 32, 33, 34, 35, 36] (by decide +kernel) (by decide +kernel)
set_option maxRecDepth 20000 in
theorem gX6_leave_X6_isHole : GoodIn wsX6_leave (wsV RX6 126 RX6 yX6_isHole wsX6_isHole) := goodIn_app (goodIn_of _ (by decide +kernel)) ggX6_leave_X6_isHole
set_option maxRecDepth 20000 in
theorem ggX6_leave_X6_empty : GoodIn wsX6_leave wsX6_empty := goodIn_r _ [14, 1, 15, 16, 17, 18, 19, 20, 21, 22, 23, 24, 25, 26, 27, 28, 29, 30, 31, 32, 33, 34, 35, 36] (by decide +kernel) (by decide +kernel)
set_option maxRecDepth 20000 in
theorem gX6_leave_X6_empty : GoodIn wsX6_leave (wsV RX6 78 RX6 yX6_empty wsX6_empty) := goodIn_app (goodIn_of _ (by decide +kernel)) ggX6_leave_X6_empty
theorem dX6_leave_0 : decode cX6_leave 0 = .ok (.aload_n 0, 1) := by decide +kernel
theorem dX6_leave_1 : decode cX6_leave 1 = .ok (.iload_n 1, 1) := by decide +kernel
theorem dX6_leave_2 : decode cX6_leave 2 = .ok (.invokevirtual 126, 3) := by decide +kernel
theorem dX6_leave_5 : decode cX6_leave 5 = .ok (.ifCond .ne 6, 3) := by decide +kernel
theorem dX6_leave_8 : decode cX6_leave 8 = .ok (.bipush (-101), 2) := by decide +kernel
theorem dX6_leave_10 : decode cX6_leave 10 = .ok (.ireturn, 1) := by decide +kernel
theorem dX6_leave_11 : decode cX6_leave 11 = .ok (.aload_n 0, 1) := by decide +kernel
theorem dX6_leave_12 : decode cX6_leave 12 = .ok (.getfield 16, 3) := by decide +kernel
theorem dX6_leave_15 : decode cX6_leave 15 = .ok (.iconst 4, 1) := by decide +kernel
theorem dX6_leave_16 : decode cX6_leave 16 = .ok (.iload_n 1, 1) := by decide +kernel
theorem dX6_leave_17 : decode cX6_leave 17 = .ok (.imul, 1) := by decide +kernel
theorem dX6_leave_18 : decode cX6_leave 18 = .ok (.iconst 1, 1) := by decide +kernel
theorem dX6_leave_19 : decode cX6_leave 19 = .ok (.iadd, 1) := by decide +kernel
theorem dX6_leave_20 : decode cX6_leave 20 = .ok (.iaload, 1) := by decide +kernel
theorem dX6_leave_21 : decode cX6_leave 21 = .ok (.iconst (-1), 1) := by decide +kernel
theorem dX6_leave_22 : decode cX6_leave 22 = .ok (.if_icmp .ne 6, 3) := by decide +kernel
theorem dX6_leave_25 : decode cX6_leave 25 = .ok (.bipush (-103), 2) := by decide +kernel
theorem dX6_leave_27 : decode cX6_leave 27 = .ok (.ireturn, 1) := by decide +kernel
theorem dX6_leave_28 : decode cX6_leave 28 = .ok (.aload_n 0, 1) := by decide +kernel
theorem dX6_leave_29 : decode cX6_leave 29 = .ok (.getfield 16, 3) := by decide +kernel
theorem dX6_leave_32 : decode cX6_leave 32 = .ok (.iconst 4, 1) := by decide +kernel
theorem dX6_leave_33 : decode cX6_leave 33 = .ok (.iload_n 1, 1) := by decide +kernel
theorem dX6_leave_34 : decode cX6_leave 34 = .ok (.imul, 1) := by decide +kernel
theorem dX6_leave_35 : decode cX6_leave 35 = .ok (.iconst 3, 1) := by decide +kernel
theorem dX6_leave_36 : decode cX6_leave 36 = .ok (.iadd, 1) := by decide +kernel
theorem dX6_leave_37 : decode cX6_leave 37 = .ok (.iaload, 1) := by decide +kernel
theorem dX6_leave_38 : decode cX6_leave 38 = .ok (.istore_n 2, 1) := by decide +kernel
theorem dX6_leave_39 : decode cX6_leave 39 = .ok (.aload_n 0, 1) := by decide +kernel
theorem dX6_leave_40 : decode cX6_leave 40 = .ok (.iload_n 1, 1) := by decide +kernel
theorem dX6_leave_41 : decode cX6_leave 41 = .ok (.invokevirtual 78, 3) := by decide +kernel
theorem dX6_leave_44 : decode cX6_leave 44 = .ok (.iload_n 2, 1) := by decide +kernel
theorem dX6_leave_45 : decode cX6_leave 45 = .ok (.ireturn, 1) := by decide +kernel
theorem dX6_keepVow_0 : decode cX6_keepVow 0 = .ok (.aload_n 0, 1) := by decide +kernel
theorem dX6_keepVow_1 : decode cX6_keepVow 1 = .ok (.getfield 16, 3) := by decide +kernel
theorem dX6_keepVow_4 : decode cX6_keepVow 4 = .ok (.iconst 4, 1) := by decide +kernel
theorem dX6_keepVow_5 : decode cX6_keepVow 5 = .ok (.iload_n 1, 1) := by decide +kernel
theorem dX6_keepVow_6 : decode cX6_keepVow 6 = .ok (.imul, 1) := by decide +kernel
theorem dX6_keepVow_7 : decode cX6_keepVow 7 = .ok (.iconst 3, 1) := by decide +kernel
theorem dX6_keepVow_8 : decode cX6_keepVow 8 = .ok (.iadd, 1) := by decide +kernel
theorem dX6_keepVow_9 : decode cX6_keepVow 9 = .ok (.dup2, 1) := by decide +kernel
theorem dX6_keepVow_10 : decode cX6_keepVow 10 = .ok (.iaload, 1) := by decide +kernel
theorem dX6_keepVow_11 : decode cX6_keepVow 11 = .ok (.aload_n 0, 1) := by decide +kernel
theorem dX6_keepVow_12 : decode cX6_keepVow 12 = .ok (.getfield 13, 3) := by decide +kernel
theorem dX6_keepVow_15 : decode cX6_keepVow 15 = .ok (.iconst 3, 1) := by decide +kernel
theorem dX6_keepVow_16 : decode cX6_keepVow 16 = .ok (.aload_n 0, 1) := by decide +kernel
theorem dX6_keepVow_17 : decode cX6_keepVow 17 = .ok (.getfield 16, 3) := by decide +kernel
theorem dX6_keepVow_20 : decode cX6_keepVow 20 = .ok (.iconst 4, 1) := by decide +kernel
theorem dX6_keepVow_21 : decode cX6_keepVow 21 = .ok (.iload_n 1, 1) := by decide +kernel
theorem dX6_keepVow_22 : decode cX6_keepVow 22 = .ok (.imul, 1) := by decide +kernel
theorem dX6_keepVow_23 : decode cX6_keepVow 23 = .ok (.iconst 1, 1) := by decide +kernel
theorem dX6_keepVow_24 : decode cX6_keepVow 24 = .ok (.iadd, 1) := by decide +kernel
theorem dX6_keepVow_25 : decode cX6_keepVow 25 = .ok (.iaload, 1) := by decide +kernel
theorem dX6_keepVow_26 : decode cX6_keepVow 26 = .ok (.imul, 1) := by decide +kernel
theorem dX6_keepVow_27 : decode cX6_keepVow 27 = .ok (.iaload, 1) := by decide +kernel
theorem dX6_keepVow_28 : decode cX6_keepVow 28 = .ok (.iconst 2, 1) := by decide +kernel
theorem dX6_keepVow_29 : decode cX6_keepVow 29 = .ok (.if_icmp .ne 7, 3) := by decide +kernel
theorem dX6_keepVow_32 : decode cX6_keepVow 32 = .ok (.iconst 0, 1) := by decide +kernel
theorem dX6_keepVow_33 : decode cX6_keepVow 33 = .ok (.goto 4, 3) := by decide +kernel
theorem dX6_keepVow_36 : decode cX6_keepVow 36 = .ok (.iconst 1, 1) := by decide +kernel
theorem dX6_keepVow_37 : decode cX6_keepVow 37 = .ok (.iadd, 1) := by decide +kernel
theorem dX6_keepVow_38 : decode cX6_keepVow 38 = .ok (.iastore, 1) := by decide +kernel
theorem dX6_keepVow_39 : decode cX6_keepVow 39 = .ok (.return_, 1) := by decide +kernel
set_option maxRecDepth 20000 in
theorem ggX6_year_X6_in : GoodIn wsX6_year wsX6_in := goodIn_r _ [8] (by decide +kernel) (by decide +kernel)
set_option maxRecDepth 20000 in
theorem gX6_year_X6_in : GoodIn wsX6_year (va_wsS RX6 46 yX6_in wsX6_in) := goodIn_app (goodIn_of _ (by decide +kernel)) ggX6_year_X6_in
set_option maxRecDepth 20000 in
theorem ggX6_year_X6_lacks : GoodIn wsX6_year wsX6_lacks := goodIn_r _ [12, 1, 21, 22, 23, 24, 25, 26, 27, 28, 29, 30, 31, 32, 33, 34, 35, 36, 37, 38, 39, 40, 41, 42] (by decide +kernel) (by decide +kernel)
set_option maxRecDepth 20000 in
theorem gX6_year_X6_lacks : GoodIn wsX6_year (wsV RX6 135 RX6 yX6_lacks wsX6_lacks) := goodIn_app (goodIn_of _ (by decide +kernel)) ggX6_year_X6_lacks
set_option maxRecDepth 20000 in
theorem ggX6_year_X6_keepVow : GoodIn wsX6_year wsX6_keepVow := goodIn_r _ [16, 3, 4, 21, 22, 23, 24, 25, 26, 27, 28, 29, 30, 31, 32, 33, 34, 35, 36, 37, 38, 39, 40, 41, 42] (by decide +kernel) (by decide +kernel)
set_option maxRecDepth 20000 in
theorem gX6_year_X6_keepVow : GoodIn wsX6_year (wsV RX6 139 RX6 yX6_keepVow wsX6_keepVow) := goodIn_app (goodIn_of _ (by decide +kernel)) ggX6_year_X6_keepVow
set_option maxRecDepth 20000 in
theorem ggX6_year_X6_empty : GoodIn wsX6_year wsX6_empty := goodIn_r _ [20, 3, 21, 22, 23, 24, 25, 26, 27, 28, 29, 30, 31, 32, 33, 34, 35, 36, 37, 38, 39, 40, 41, 42] (by decide +kernel) (by decide +kernel)
set_option maxRecDepth 20000 in
theorem gX6_year_X6_empty : GoodIn wsX6_year (wsV RX6 78 RX6 yX6_empty wsX6_empty) := goodIn_app (goodIn_of _ (by decide +kernel)) ggX6_year_X6_empty
theorem dX6_year_0 : decode cX6_year 0 = .ok (.iload_n 1, 1) := by decide +kernel
theorem dX6_year_1 : decode cX6_year 1 = .ok (.i2l, 1) := by decide +kernel
theorem dX6_year_2 : decode cX6_year 2 = .ok (.lconst 0, 1) := by decide +kernel
theorem dX6_year_3 : decode cX6_year 3 = .ok (.iconst 1, 1) := by decide +kernel
theorem dX6_year_4 : decode cX6_year 4 = .ok (.aload_n 0, 1) := by decide +kernel
theorem dX6_year_5 : decode cX6_year 5 = .ok (.getfield 75, 3) := by decide +kernel
theorem dX6_year_8 : decode cX6_year 8 = .ok (.ishl, 1) := by decide +kernel
theorem dX6_year_9 : decode cX6_year 9 = .ok (.iconst 1, 1) := by decide +kernel
theorem dX6_year_10 : decode cX6_year 10 = .ok (.isub, 1) := by decide +kernel
theorem dX6_year_11 : decode cX6_year 11 = .ok (.i2l, 1) := by decide +kernel
theorem dX6_year_12 : decode cX6_year 12 = .ok (.invokestatic 46, 3) := by decide +kernel
theorem dX6_year_15 : decode cX6_year 15 = .ok (.ifCond .ne 6, 3) := by decide +kernel
theorem dX6_year_18 : decode cX6_year 18 = .ok (.bipush (-102), 2) := by decide +kernel
theorem dX6_year_20 : decode cX6_year 20 = .ok (.ireturn, 1) := by decide +kernel
theorem dX6_year_21 : decode cX6_year 21 = .ok (.aload_n 0, 1) := by decide +kernel
theorem dX6_year_22 : decode cX6_year 22 = .ok (.invokevirtual 135, 3) := by decide +kernel
theorem dX6_year_25 : decode cX6_year 25 = .ok (.ifCond .eq 6, 3) := by decide +kernel
theorem dX6_year_28 : decode cX6_year 28 = .ok (.bipush (-103), 2) := by decide +kernel
theorem dX6_year_30 : decode cX6_year 30 = .ok (.ireturn, 1) := by decide +kernel
theorem dX6_year_31 : decode cX6_year 31 = .ok (.aload_n 0, 1) := by decide +kernel
theorem dX6_year_32 : decode cX6_year 32 = .ok (.getfield 82, 3) := by decide +kernel
theorem dX6_year_35 : decode cX6_year 35 = .ok (.bipush 99, 2) := by decide +kernel
theorem dX6_year_37 : decode cX6_year 37 = .ok (.if_icmp .ne 6, 3) := by decide +kernel
theorem dX6_year_40 : decode cX6_year 40 = .ok (.bipush (-104), 2) := by decide +kernel
theorem dX6_year_42 : decode cX6_year 42 = .ok (.ireturn, 1) := by decide +kernel
theorem dX6_year_43 : decode cX6_year 43 = .ok (.aload_n 0, 1) := by decide +kernel
theorem dX6_year_44 : decode cX6_year 44 = .ok (.dup, 1) := by decide +kernel
theorem dX6_year_45 : decode cX6_year 45 = .ok (.getfield 82, 3) := by decide +kernel
theorem dX6_year_48 : decode cX6_year 48 = .ok (.iconst 1, 1) := by decide +kernel
theorem dX6_year_49 : decode cX6_year 49 = .ok (.iadd, 1) := by decide +kernel
theorem dX6_year_50 : decode cX6_year 50 = .ok (.putfield 82, 3) := by decide +kernel
theorem dX6_year_53 : decode cX6_year 53 = .ok (.iconst 0, 1) := by decide +kernel
theorem dX6_year_54 : decode cX6_year 54 = .ok (.istore_n 2, 1) := by decide +kernel
theorem dX6_year_55 : decode cX6_year 55 = .ok (.iconst 0, 1) := by decide +kernel
theorem dX6_year_56 : decode cX6_year 56 = .ok (.istore_n 3, 1) := by decide +kernel
theorem dX6_year_57 : decode cX6_year 57 = .ok (.iload_n 3, 1) := by decide +kernel
theorem dX6_year_58 : decode cX6_year 58 = .ok (.aload_n 0, 1) := by decide +kernel
theorem dX6_year_59 : decode cX6_year 59 = .ok (.getfield 75, 3) := by decide +kernel
theorem dX6_year_62 : decode cX6_year 62 = .ok (.if_icmp .ge 84, 3) := by decide +kernel
theorem dX6_year_65 : decode cX6_year 65 = .ok (.aload_n 0, 1) := by decide +kernel
theorem dX6_year_66 : decode cX6_year 66 = .ok (.getfield 16, 3) := by decide +kernel
theorem dX6_year_69 : decode cX6_year 69 = .ok (.iconst 4, 1) := by decide +kernel
theorem dX6_year_70 : decode cX6_year 70 = .ok (.iload_n 3, 1) := by decide +kernel
theorem dX6_year_71 : decode cX6_year 71 = .ok (.imul, 1) := by decide +kernel
theorem dX6_year_72 : decode cX6_year 72 = .ok (.iconst 1, 1) := by decide +kernel
theorem dX6_year_73 : decode cX6_year 73 = .ok (.iadd, 1) := by decide +kernel
theorem dX6_year_74 : decode cX6_year 74 = .ok (.iaload, 1) := by decide +kernel
theorem dX6_year_75 : decode cX6_year 75 = .ok (.istore 4, 2) := by decide +kernel
theorem dX6_year_77 : decode cX6_year 77 = .ok (.iload 4, 2) := by decide +kernel
theorem dX6_year_79 : decode cX6_year 79 = .ok (.iconst (-1), 1) := by decide +kernel
theorem dX6_year_80 : decode cX6_year 80 = .ok (.if_icmp .eq 23, 3) := by decide +kernel
theorem dX6_year_83 : decode cX6_year 83 = .ok (.iload_n 1, 1) := by decide +kernel
theorem dX6_year_84 : decode cX6_year 84 = .ok (.iload_n 3, 1) := by decide +kernel
theorem dX6_year_85 : decode cX6_year 85 = .ok (.ishr, 1) := by decide +kernel
theorem dX6_year_86 : decode cX6_year 86 = .ok (.iconst 1, 1) := by decide +kernel
theorem dX6_year_87 : decode cX6_year 87 = .ok (.iand, 1) := by decide +kernel
theorem dX6_year_88 : decode cX6_year 88 = .ok (.iconst 1, 1) := by decide +kernel
theorem dX6_year_89 : decode cX6_year 89 = .ok (.if_icmp .ne 14, 3) := by decide +kernel
theorem dX6_year_92 : decode cX6_year 92 = .ok (.aload_n 0, 1) := by decide +kernel
theorem dX6_year_93 : decode cX6_year 93 = .ok (.iload_n 3, 1) := by decide +kernel
theorem dX6_year_94 : decode cX6_year 94 = .ok (.invokevirtual 139, 3) := by decide +kernel
theorem dX6_year_97 : decode cX6_year 97 = .ok (.iinc 2 1, 3) := by decide +kernel
theorem dX6_year_100 : decode cX6_year 100 = .ok (.goto 40, 3) := by decide +kernel
theorem dX6_year_103 : decode cX6_year 103 = .ok (.iload 4, 2) := by decide +kernel
theorem dX6_year_105 : decode cX6_year 105 = .ok (.iconst (-1), 1) := by decide +kernel
theorem dX6_year_106 : decode cX6_year 106 = .ok (.if_icmp .eq 34, 3) := by decide +kernel
theorem dX6_year_109 : decode cX6_year 109 = .ok (.aload_n 0, 1) := by decide +kernel
theorem dX6_year_110 : decode cX6_year 110 = .ok (.getfield 13, 3) := by decide +kernel
theorem dX6_year_113 : decode cX6_year 113 = .ok (.iconst 3, 1) := by decide +kernel
theorem dX6_year_114 : decode cX6_year 114 = .ok (.iload 4, 2) := by decide +kernel
theorem dX6_year_116 : decode cX6_year 116 = .ok (.imul, 1) := by decide +kernel
theorem dX6_year_117 : decode cX6_year 117 = .ok (.iconst 2, 1) := by decide +kernel
theorem dX6_year_118 : decode cX6_year 118 = .ok (.iadd, 1) := by decide +kernel
theorem dX6_year_119 : decode cX6_year 119 = .ok (.dup2, 1) := by decide +kernel
theorem dX6_year_120 : decode cX6_year 120 = .ok (.iaload, 1) := by decide +kernel
theorem dX6_year_121 : decode cX6_year 121 = .ok (.iconst 1, 1) := by decide +kernel
theorem dX6_year_122 : decode cX6_year 122 = .ok (.iadd, 1) := by decide +kernel
theorem dX6_year_123 : decode cX6_year 123 = .ok (.iastore, 1) := by decide +kernel
theorem dX6_year_124 : decode cX6_year 124 = .ok (.aload_n 0, 1) := by decide +kernel
theorem dX6_year_125 : decode cX6_year 125 = .ok (.iload_n 3, 1) := by decide +kernel
theorem dX6_year_126 : decode cX6_year 126 = .ok (.invokevirtual 78, 3) := by decide +kernel
theorem dX6_year_129 : decode cX6_year 129 = .ok (.aload_n 0, 1) := by decide +kernel
theorem dX6_year_130 : decode cX6_year 130 = .ok (.getfield 16, 3) := by decide +kernel
theorem dX6_year_133 : decode cX6_year 133 = .ok (.iconst 4, 1) := by decide +kernel
theorem dX6_year_134 : decode cX6_year 134 = .ok (.iload_n 3, 1) := by decide +kernel
theorem dX6_year_135 : decode cX6_year 135 = .ok (.imul, 1) := by decide +kernel
theorem dX6_year_136 : decode cX6_year 136 = .ok (.iconst 2, 1) := by decide +kernel
theorem dX6_year_137 : decode cX6_year 137 = .ok (.iadd, 1) := by decide +kernel
theorem dX6_year_138 : decode cX6_year 138 = .ok (.iconst 2, 1) := by decide +kernel
theorem dX6_year_139 : decode cX6_year 139 = .ok (.iastore, 1) := by decide +kernel
theorem dX6_year_140 : decode cX6_year 140 = .ok (.iinc 3 1, 3) := by decide +kernel
theorem dX6_year_143 : decode cX6_year 143 = .ok (.goto (-86), 3) := by decide +kernel
theorem dX6_year_146 : decode cX6_year 146 = .ok (.iload_n 2, 1) := by decide +kernel
theorem dX6_year_147 : decode cX6_year 147 = .ok (.ireturn, 1) := by decide +kernel
set_option maxRecDepth 20000 in
theorem ggX6_forgive_X6_empty : GoodIn wsX6_forgive wsX6_empty := goodIn_r _ [7, 2, 8, 9, 10, 11, 12, 13, 14, 15, 16, 17, 18, 19, 20, 21, 22, 23, 24, 25, 26, 27, 28, 29] (by decide +kernel) (by decide +kernel)
set_option maxRecDepth 20000 in
theorem gX6_forgive_X6_empty : GoodIn wsX6_forgive (wsV RX6 78 RX6 yX6_empty wsX6_empty) := goodIn_app (goodIn_of _ (by decide +kernel)) ggX6_forgive_X6_empty
theorem dX6_forgive_0 : decode cX6_forgive 0 = .ok (.iconst 0, 1) := by decide +kernel
theorem dX6_forgive_1 : decode cX6_forgive 1 = .ok (.istore_n 1, 1) := by decide +kernel
theorem dX6_forgive_2 : decode cX6_forgive 2 = .ok (.iconst 0, 1) := by decide +kernel
theorem dX6_forgive_3 : decode cX6_forgive 3 = .ok (.istore_n 2, 1) := by decide +kernel
theorem dX6_forgive_4 : decode cX6_forgive 4 = .ok (.iload_n 2, 1) := by decide +kernel
theorem dX6_forgive_5 : decode cX6_forgive 5 = .ok (.aload_n 0, 1) := by decide +kernel
theorem dX6_forgive_6 : decode cX6_forgive 6 = .ok (.getfield 75, 3) := by decide +kernel
theorem dX6_forgive_9 : decode cX6_forgive 9 = .ok (.if_icmp .ge 31, 3) := by decide +kernel
theorem dX6_forgive_12 : decode cX6_forgive 12 = .ok (.aload_n 0, 1) := by decide +kernel
theorem dX6_forgive_13 : decode cX6_forgive 13 = .ok (.getfield 16, 3) := by decide +kernel
theorem dX6_forgive_16 : decode cX6_forgive 16 = .ok (.iconst 4, 1) := by decide +kernel
theorem dX6_forgive_17 : decode cX6_forgive 17 = .ok (.iload_n 2, 1) := by decide +kernel
theorem dX6_forgive_18 : decode cX6_forgive 18 = .ok (.imul, 1) := by decide +kernel
theorem dX6_forgive_19 : decode cX6_forgive 19 = .ok (.iconst 2, 1) := by decide +kernel
theorem dX6_forgive_20 : decode cX6_forgive 20 = .ok (.iadd, 1) := by decide +kernel
theorem dX6_forgive_21 : decode cX6_forgive 21 = .ok (.iaload, 1) := by decide +kernel
theorem dX6_forgive_22 : decode cX6_forgive 22 = .ok (.iconst 2, 1) := by decide +kernel
theorem dX6_forgive_23 : decode cX6_forgive 23 = .ok (.if_icmp .ne 11, 3) := by decide +kernel
theorem dX6_forgive_26 : decode cX6_forgive 26 = .ok (.iinc 1 1, 3) := by decide +kernel
theorem dX6_forgive_29 : decode cX6_forgive 29 = .ok (.aload_n 0, 1) := by decide +kernel
theorem dX6_forgive_30 : decode cX6_forgive 30 = .ok (.iload_n 2, 1) := by decide +kernel
theorem dX6_forgive_31 : decode cX6_forgive 31 = .ok (.invokevirtual 78, 3) := by decide +kernel
theorem dX6_forgive_34 : decode cX6_forgive 34 = .ok (.iinc 2 1, 3) := by decide +kernel
theorem dX6_forgive_37 : decode cX6_forgive 37 = .ok (.goto (-33), 3) := by decide +kernel
theorem dX6_forgive_40 : decode cX6_forgive 40 = .ok (.iload_n 1, 1) := by decide +kernel
theorem dX6_forgive_41 : decode cX6_forgive 41 = .ok (.ireturn, 1) := by decide +kernel
set_option maxRecDepth 20000 in
theorem ggX6_oddsOf_X6_tenthsIn : GoodIn wsX6_oddsOf wsX6_tenthsIn := goodIn_r _ [8, 2, 9, 10, 11, 7, 12, 13, 14, 15, 16, 20, 21, 22, 23, 24, 25, 26, 27, 28, 29, 30, 31, 32, 33, 34, 35, 36, 37, 38, 39, 40, 41] (by decide +kernel) (by decide +kernel)
set_option maxRecDepth 20000 in
theorem gX6_oddsOf_X6_tenthsIn : GoodIn wsX6_oddsOf (wsV RX6 123 RX6 yX6_tenthsIn wsX6_tenthsIn) := goodIn_app (goodIn_of _ (by decide +kernel)) ggX6_oddsOf_X6_tenthsIn
set_option maxRecDepth 20000 in
theorem ggX6_oddsOf_X6_common : GoodIn wsX6_oddsOf wsX6_common := goodIn_r _ [19] (by decide +kernel) (by decide +kernel)
set_option maxRecDepth 20000 in
theorem gX6_oddsOf_X6_common : GoodIn wsX6_oddsOf (va_wsS RX6 144 yX6_common wsX6_common) := goodIn_app (goodIn_of _ (by decide +kernel)) ggX6_oddsOf_X6_common
theorem dX6_oddsOf_0 : decode cX6_oddsOf 0 = .ok (.lconst 1, 1) := by decide +kernel
theorem dX6_oddsOf_1 : decode cX6_oddsOf 1 = .ok (.lstore_n 3, 1) := by decide +kernel
theorem dX6_oddsOf_2 : decode cX6_oddsOf 2 = .ok (.lconst 1, 1) := by decide +kernel
theorem dX6_oddsOf_3 : decode cX6_oddsOf 3 = .ok (.lstore 5, 2) := by decide +kernel
theorem dX6_oddsOf_5 : decode cX6_oddsOf 5 = .ok (.iconst 0, 1) := by decide +kernel
theorem dX6_oddsOf_6 : decode cX6_oddsOf 6 = .ok (.istore 7, 2) := by decide +kernel
theorem dX6_oddsOf_8 : decode cX6_oddsOf 8 = .ok (.iload 7, 2) := by decide +kernel
theorem dX6_oddsOf_10 : decode cX6_oddsOf 10 = .ok (.aload_n 0, 1) := by decide +kernel
theorem dX6_oddsOf_11 : decode cX6_oddsOf 11 = .ok (.getfield 75, 3) := by decide +kernel
theorem dX6_oddsOf_14 : decode cX6_oddsOf 14 = .ok (.if_icmp .ge 57, 3) := by decide +kernel
theorem dX6_oddsOf_17 : decode cX6_oddsOf 17 = .ok (.iconst 0, 1) := by decide +kernel
theorem dX6_oddsOf_18 : decode cX6_oddsOf 18 = .ok (.istore 8, 2) := by decide +kernel
theorem dX6_oddsOf_20 : decode cX6_oddsOf 20 = .ok (.iload 8, 2) := by decide +kernel
theorem dX6_oddsOf_22 : decode cX6_oddsOf 22 = .ok (.iload_n 1, 1) := by decide +kernel
theorem dX6_oddsOf_23 : decode cX6_oddsOf 23 = .ok (.if_icmp .ge 42, 3) := by decide +kernel
theorem dX6_oddsOf_26 : decode cX6_oddsOf 26 = .ok (.aload_n 0, 1) := by decide +kernel
theorem dX6_oddsOf_27 : decode cX6_oddsOf 27 = .ok (.getfield 16, 3) := by decide +kernel
theorem dX6_oddsOf_30 : decode cX6_oddsOf 30 = .ok (.iconst 4, 1) := by decide +kernel
theorem dX6_oddsOf_31 : decode cX6_oddsOf 31 = .ok (.iload 7, 2) := by decide +kernel
theorem dX6_oddsOf_33 : decode cX6_oddsOf 33 = .ok (.imul, 1) := by decide +kernel
theorem dX6_oddsOf_34 : decode cX6_oddsOf 34 = .ok (.iconst 1, 1) := by decide +kernel
theorem dX6_oddsOf_35 : decode cX6_oddsOf 35 = .ok (.iadd, 1) := by decide +kernel
theorem dX6_oddsOf_36 : decode cX6_oddsOf 36 = .ok (.iaload, 1) := by decide +kernel
theorem dX6_oddsOf_37 : decode cX6_oddsOf 37 = .ok (.iconst (-1), 1) := by decide +kernel
theorem dX6_oddsOf_38 : decode cX6_oddsOf 38 = .ok (.if_icmp .eq 27, 3) := by decide +kernel
theorem dX6_oddsOf_41 : decode cX6_oddsOf 41 = .ok (.lload_n 3, 1) := by decide +kernel
theorem dX6_oddsOf_42 : decode cX6_oddsOf 42 = .ok (.aload_n 0, 1) := by decide +kernel
theorem dX6_oddsOf_43 : decode cX6_oddsOf 43 = .ok (.iload 7, 2) := by decide +kernel
theorem dX6_oddsOf_45 : decode cX6_oddsOf 45 = .ok (.invokevirtual 123, 3) := by decide +kernel
theorem dX6_oddsOf_48 : decode cX6_oddsOf 48 = .ok (.i2l, 1) := by decide +kernel
theorem dX6_oddsOf_49 : decode cX6_oddsOf 49 = .ok (.lmul, 1) := by decide +kernel
theorem dX6_oddsOf_50 : decode cX6_oddsOf 50 = .ok (.lstore_n 3, 1) := by decide +kernel
theorem dX6_oddsOf_51 : decode cX6_oddsOf 51 = .ok (.lload 5, 2) := by decide +kernel
theorem dX6_oddsOf_53 : decode cX6_oddsOf 53 = .ok (.ldc2_w 142, 3) := by decide +kernel
theorem dX6_oddsOf_56 : decode cX6_oddsOf 56 = .ok (.lmul, 1) := by decide +kernel
theorem dX6_oddsOf_57 : decode cX6_oddsOf 57 = .ok (.lstore 5, 2) := by decide +kernel
theorem dX6_oddsOf_59 : decode cX6_oddsOf 59 = .ok (.iinc 8 1, 3) := by decide +kernel
theorem dX6_oddsOf_62 : decode cX6_oddsOf 62 = .ok (.goto (-42), 3) := by decide +kernel
theorem dX6_oddsOf_65 : decode cX6_oddsOf 65 = .ok (.iinc 7 1, 3) := by decide +kernel
theorem dX6_oddsOf_68 : decode cX6_oddsOf 68 = .ok (.goto (-60), 3) := by decide +kernel
theorem dX6_oddsOf_71 : decode cX6_oddsOf 71 = .ok (.lload 5, 2) := by decide +kernel
theorem dX6_oddsOf_73 : decode cX6_oddsOf 73 = .ok (.lload_n 3, 1) := by decide +kernel
theorem dX6_oddsOf_74 : decode cX6_oddsOf 74 = .ok (.invokestatic 144, 3) := by decide +kernel
theorem dX6_oddsOf_77 : decode cX6_oddsOf 77 = .ok (.lstore 7, 2) := by decide +kernel
theorem dX6_oddsOf_79 : decode cX6_oddsOf 79 = .ok (.iload_n 2, 1) := by decide +kernel
theorem dX6_oddsOf_80 : decode cX6_oddsOf 80 = .ok (.ifCond .ne 10, 3) := by decide +kernel
theorem dX6_oddsOf_83 : decode cX6_oddsOf 83 = .ok (.lload_n 3, 1) := by decide +kernel
theorem dX6_oddsOf_84 : decode cX6_oddsOf 84 = .ok (.lload 7, 2) := by decide +kernel
theorem dX6_oddsOf_86 : decode cX6_oddsOf 86 = .ok (.ldiv, 1) := by decide +kernel
theorem dX6_oddsOf_87 : decode cX6_oddsOf 87 = .ok (.goto 8, 3) := by decide +kernel
theorem dX6_oddsOf_90 : decode cX6_oddsOf 90 = .ok (.lload 5, 2) := by decide +kernel
theorem dX6_oddsOf_92 : decode cX6_oddsOf 92 = .ok (.lload 7, 2) := by decide +kernel
theorem dX6_oddsOf_94 : decode cX6_oddsOf 94 = .ok (.ldiv, 1) := by decide +kernel
theorem dX6_oddsOf_95 : decode cX6_oddsOf 95 = .ok (.lreturn, 1) := by decide +kernel
set_option maxRecDepth 20000 in
theorem ggX6_odds_X6_in : GoodIn wsX6_odds wsX6_in := goodIn_r _ [7] (by decide +kernel) (by decide +kernel)
set_option maxRecDepth 20000 in
theorem gX6_odds_X6_in : GoodIn wsX6_odds (va_wsS RX6 46 yX6_in wsX6_in) := goodIn_app (goodIn_of _ (by decide +kernel)) ggX6_odds_X6_in
set_option maxRecDepth 20000 in
theorem ggX6_odds_X6_lacks : GoodIn wsX6_odds wsX6_lacks := goodIn_r _ [11, 12, 34, 35, 36, 37, 38, 39, 40, 41, 42, 43, 44, 45, 46, 47, 48, 49, 50, 51, 52, 53, 54, 55] (by decide +kernel) (by decide +kernel)
set_option maxRecDepth 20000 in
theorem gX6_odds_X6_lacks : GoodIn wsX6_odds (wsV RX6 135 RX6 yX6_lacks wsX6_lacks) := goodIn_app (goodIn_of _ (by decide +kernel)) ggX6_odds_X6_lacks
set_option maxRecDepth 20000 in
theorem ggX6_odds_X6_oddsOf : GoodIn wsX6_odds wsX6_oddsOf := goodIn_r _ [16, 12, 17, 18, 19, 20, 21, 6, 22, 23, 24, 25, 26, 27, 28, 29, 30, 31, 32, 33, 34, 35, 36, 37, 38, 39, 40, 41, 42, 43, 44, 45, 46, 47, 48, 49, 50, 51, 52, 53, 54, 55] (by decide +kernel) (by decide +kernel)
set_option maxRecDepth 20000 in
theorem gX6_odds_X6_oddsOf : GoodIn wsX6_odds (wsV RX6 154 RX6 yX6_oddsOf wsX6_oddsOf) := goodIn_app (goodIn_of _ (by decide +kernel)) ggX6_odds_X6_oddsOf
theorem dX6_odds_0 : decode cX6_odds 0 = .ok (.iload_n 1, 1) := by decide +kernel
theorem dX6_odds_1 : decode cX6_odds 1 = .ok (.i2l, 1) := by decide +kernel
theorem dX6_odds_2 : decode cX6_odds 2 = .ok (.lconst 1, 1) := by decide +kernel
theorem dX6_odds_3 : decode cX6_odds 3 = .ok (.ldc2_w 148, 3) := by decide +kernel
theorem dX6_odds_6 : decode cX6_odds 6 = .ok (.invokestatic 46, 3) := by decide +kernel
theorem dX6_odds_9 : decode cX6_odds 9 = .ok (.ifCond .eq 13, 3) := by decide +kernel
theorem dX6_odds_12 : decode cX6_odds 12 = .ok (.iload_n 2, 1) := by decide +kernel
theorem dX6_odds_13 : decode cX6_odds 13 = .ok (.i2l, 1) := by decide +kernel
theorem dX6_odds_14 : decode cX6_odds 14 = .ok (.lconst 0, 1) := by decide +kernel
theorem dX6_odds_15 : decode cX6_odds 15 = .ok (.lconst 1, 1) := by decide +kernel
theorem dX6_odds_16 : decode cX6_odds 16 = .ok (.invokestatic 46, 3) := by decide +kernel
theorem dX6_odds_19 : decode cX6_odds 19 = .ok (.ifCond .ne 7, 3) := by decide +kernel
theorem dX6_odds_22 : decode cX6_odds 22 = .ok (.ldc2_w 150, 3) := by decide +kernel
theorem dX6_odds_25 : decode cX6_odds 25 = .ok (.lreturn, 1) := by decide +kernel
theorem dX6_odds_26 : decode cX6_odds 26 = .ok (.aload_n 0, 1) := by decide +kernel
theorem dX6_odds_27 : decode cX6_odds 27 = .ok (.invokevirtual 135, 3) := by decide +kernel
theorem dX6_odds_30 : decode cX6_odds 30 = .ok (.ifCond .eq 9, 3) := by decide +kernel
theorem dX6_odds_33 : decode cX6_odds 33 = .ok (.ldc2_w 152, 3) := by decide +kernel
theorem dX6_odds_36 : decode cX6_odds 36 = .ok (.goto 9, 3) := by decide +kernel
theorem dX6_odds_39 : decode cX6_odds 39 = .ok (.aload_n 0, 1) := by decide +kernel
theorem dX6_odds_40 : decode cX6_odds 40 = .ok (.iload_n 1, 1) := by decide +kernel
theorem dX6_odds_41 : decode cX6_odds 41 = .ok (.iload_n 2, 1) := by decide +kernel
theorem dX6_odds_42 : decode cX6_odds 42 = .ok (.invokevirtual 154, 3) := by decide +kernel
theorem dX6_odds_45 : decode cX6_odds 45 = .ok (.lreturn, 1) := by decide +kernel
set_option maxRecDepth 20000 in
theorem ggX6_layRow_X6_tenthsOf : GoodIn wsX6_layRow wsX6_tenthsOf := goodIn_r _ [9, 10, 11, 12, 8, 13, 21, 22, 23, 24, 25, 26, 27, 28, 29, 30, 31, 32, 33, 34, 35, 36, 37, 38, 39, 40, 41, 42] (by decide +kernel) (by decide +kernel)
set_option maxRecDepth 20000 in
theorem gX6_layRow_X6_tenthsOf : GoodIn wsX6_layRow (wsV RX6 118 RX6 yX6_tenthsOf wsX6_tenthsOf) := goodIn_app (goodIn_of _ (by decide +kernel)) ggX6_layRow_X6_tenthsOf
set_option maxRecDepth 20000 in
theorem ggX6_layRow_X6_setOf : GoodIn wsX6_layRow wsX6_setOf := goodIn_r _ [17, 1, 4, 21, 22, 23, 24, 25, 26, 27, 28, 29, 30, 31, 32, 33, 34, 35, 36, 37, 38, 39, 40, 41, 42] (by decide +kernel) (by decide +kernel)
set_option maxRecDepth 20000 in
theorem gX6_layRow_X6_setOf : GoodIn wsX6_layRow (wsV RX6 95 RX6 yX6_setOf wsX6_setOf) := goodIn_app (goodIn_of _ (by decide +kernel)) ggX6_layRow_X6_setOf
set_option maxRecDepth 20000 in
theorem ggX6_layRow_X6_ones : GoodIn wsX6_layRow wsX6_ones := goodIn_r _ [20] (by decide +kernel) (by decide +kernel)
set_option maxRecDepth 20000 in
theorem gX6_layRow_X6_ones : GoodIn wsX6_layRow (va_wsS RX6 132 yX6_ones wsX6_ones) := goodIn_app (goodIn_of _ (by decide +kernel)) ggX6_layRow_X6_ones
theorem dX6_layRow_0 : decode cX6_layRow 0 = .ok (.iload_n 1, 1) := by decide +kernel
theorem dX6_layRow_1 : decode cX6_layRow 1 = .ok (.istore_n 2, 1) := by decide +kernel
theorem dX6_layRow_2 : decode cX6_layRow 2 = .ok (.iconst 0, 1) := by decide +kernel
theorem dX6_layRow_3 : decode cX6_layRow 3 = .ok (.istore_n 3, 1) := by decide +kernel
theorem dX6_layRow_4 : decode cX6_layRow 4 = .ok (.aload_n 0, 1) := by decide +kernel
theorem dX6_layRow_5 : decode cX6_layRow 5 = .ok (.getfield 75, 3) := by decide +kernel
theorem dX6_layRow_8 : decode cX6_layRow 8 = .ok (.iconst 1, 1) := by decide +kernel
theorem dX6_layRow_9 : decode cX6_layRow 9 = .ok (.isub, 1) := by decide +kernel
theorem dX6_layRow_10 : decode cX6_layRow 10 = .ok (.istore 4, 2) := by decide +kernel
theorem dX6_layRow_12 : decode cX6_layRow 12 = .ok (.iload 4, 2) := by decide +kernel
theorem dX6_layRow_14 : decode cX6_layRow 14 = .ok (.ifCond .lt 100, 3) := by decide +kernel
theorem dX6_layRow_17 : decode cX6_layRow 17 = .ok (.aload_n 0, 1) := by decide +kernel
theorem dX6_layRow_18 : decode cX6_layRow 18 = .ok (.getfield 19, 3) := by decide +kernel
theorem dX6_layRow_21 : decode cX6_layRow 21 = .ok (.iload 4, 2) := by decide +kernel
theorem dX6_layRow_23 : decode cX6_layRow 23 = .ok (.iload_n 2, 1) := by decide +kernel
theorem dX6_layRow_24 : decode cX6_layRow 24 = .ok (.aload_n 0, 1) := by decide +kernel
theorem dX6_layRow_25 : decode cX6_layRow 25 = .ok (.getfield 72, 3) := by decide +kernel
theorem dX6_layRow_28 : decode cX6_layRow 28 = .ok (.iconst 1, 1) := by decide +kernel
theorem dX6_layRow_29 : decode cX6_layRow 29 = .ok (.iadd, 1) := by decide +kernel
theorem dX6_layRow_30 : decode cX6_layRow 30 = .ok (.irem, 1) := by decide +kernel
theorem dX6_layRow_31 : decode cX6_layRow 31 = .ok (.iconst 1, 1) := by decide +kernel
theorem dX6_layRow_32 : decode cX6_layRow 32 = .ok (.isub, 1) := by decide +kernel
theorem dX6_layRow_33 : decode cX6_layRow 33 = .ok (.iastore, 1) := by decide +kernel
theorem dX6_layRow_34 : decode cX6_layRow 34 = .ok (.iload_n 2, 1) := by decide +kernel
theorem dX6_layRow_35 : decode cX6_layRow 35 = .ok (.aload_n 0, 1) := by decide +kernel
theorem dX6_layRow_36 : decode cX6_layRow 36 = .ok (.getfield 72, 3) := by decide +kernel
theorem dX6_layRow_39 : decode cX6_layRow 39 = .ok (.iconst 1, 1) := by decide +kernel
theorem dX6_layRow_40 : decode cX6_layRow 40 = .ok (.iadd, 1) := by decide +kernel
theorem dX6_layRow_41 : decode cX6_layRow 41 = .ok (.idiv, 1) := by decide +kernel
theorem dX6_layRow_42 : decode cX6_layRow 42 = .ok (.istore_n 2, 1) := by decide +kernel
theorem dX6_layRow_43 : decode cX6_layRow 43 = .ok (.aload_n 0, 1) := by decide +kernel
theorem dX6_layRow_44 : decode cX6_layRow 44 = .ok (.getfield 19, 3) := by decide +kernel
theorem dX6_layRow_47 : decode cX6_layRow 47 = .ok (.iload 4, 2) := by decide +kernel
theorem dX6_layRow_49 : decode cX6_layRow 49 = .ok (.iaload, 1) := by decide +kernel
theorem dX6_layRow_50 : decode cX6_layRow 50 = .ok (.iconst (-1), 1) := by decide +kernel
theorem dX6_layRow_51 : decode cX6_layRow 51 = .ok (.if_icmp .eq 19, 3) := by decide +kernel
theorem dX6_layRow_54 : decode cX6_layRow 54 = .ok (.aload_n 0, 1) := by decide +kernel
theorem dX6_layRow_55 : decode cX6_layRow 55 = .ok (.getfield 16, 3) := by decide +kernel
theorem dX6_layRow_58 : decode cX6_layRow 58 = .ok (.iconst 4, 1) := by decide +kernel
theorem dX6_layRow_59 : decode cX6_layRow 59 = .ok (.iload 4, 2) := by decide +kernel
theorem dX6_layRow_61 : decode cX6_layRow 61 = .ok (.imul, 1) := by decide +kernel
theorem dX6_layRow_62 : decode cX6_layRow 62 = .ok (.iconst 2, 1) := by decide +kernel
theorem dX6_layRow_63 : decode cX6_layRow 63 = .ok (.iadd, 1) := by decide +kernel
theorem dX6_layRow_64 : decode cX6_layRow 64 = .ok (.iaload, 1) := by decide +kernel
theorem dX6_layRow_65 : decode cX6_layRow 65 = .ok (.ifCond .eq 5, 3) := by decide +kernel
theorem dX6_layRow_68 : decode cX6_layRow 68 = .ok (.iconst (-1), 1) := by decide +kernel
theorem dX6_layRow_69 : decode cX6_layRow 69 = .ok (.ireturn, 1) := by decide +kernel
theorem dX6_layRow_70 : decode cX6_layRow 70 = .ok (.iload_n 3, 1) := by decide +kernel
theorem dX6_layRow_71 : decode cX6_layRow 71 = .ok (.aload_n 0, 1) := by decide +kernel
theorem dX6_layRow_72 : decode cX6_layRow 72 = .ok (.getfield 19, 3) := by decide +kernel
theorem dX6_layRow_75 : decode cX6_layRow 75 = .ok (.iload 4, 2) := by decide +kernel
theorem dX6_layRow_77 : decode cX6_layRow 77 = .ok (.iaload, 1) := by decide +kernel
theorem dX6_layRow_78 : decode cX6_layRow 78 = .ok (.iconst (-1), 1) := by decide +kernel
theorem dX6_layRow_79 : decode cX6_layRow 79 = .ok (.if_icmp .ne 7, 3) := by decide +kernel
theorem dX6_layRow_82 : decode cX6_layRow 82 = .ok (.iconst 0, 1) := by decide +kernel
theorem dX6_layRow_83 : decode cX6_layRow 83 = .ok (.goto 23, 3) := by decide +kernel
theorem dX6_layRow_86 : decode cX6_layRow 86 = .ok (.aload_n 0, 1) := by decide +kernel
theorem dX6_layRow_87 : decode cX6_layRow 87 = .ok (.aload_n 0, 1) := by decide +kernel
theorem dX6_layRow_88 : decode cX6_layRow 88 = .ok (.getfield 19, 3) := by decide +kernel
theorem dX6_layRow_91 : decode cX6_layRow 91 = .ok (.iload 4, 2) := by decide +kernel
theorem dX6_layRow_93 : decode cX6_layRow 93 = .ok (.iaload, 1) := by decide +kernel
theorem dX6_layRow_94 : decode cX6_layRow 94 = .ok (.aload_n 0, 1) := by decide +kernel
theorem dX6_layRow_95 : decode cX6_layRow 95 = .ok (.getfield 16, 3) := by decide +kernel
theorem dX6_layRow_98 : decode cX6_layRow 98 = .ok (.iconst 4, 1) := by decide +kernel
theorem dX6_layRow_99 : decode cX6_layRow 99 = .ok (.iload 4, 2) := by decide +kernel
theorem dX6_layRow_101 : decode cX6_layRow 101 = .ok (.imul, 1) := by decide +kernel
theorem dX6_layRow_102 : decode cX6_layRow 102 = .ok (.iaload, 1) := by decide +kernel
theorem dX6_layRow_103 : decode cX6_layRow 103 = .ok (.invokevirtual 118, 3) := by decide +kernel
theorem dX6_layRow_106 : decode cX6_layRow 106 = .ok (.iadd, 1) := by decide +kernel
theorem dX6_layRow_107 : decode cX6_layRow 107 = .ok (.istore_n 3, 1) := by decide +kernel
theorem dX6_layRow_108 : decode cX6_layRow 108 = .ok (.iinc 4 (-1), 3) := by decide +kernel
theorem dX6_layRow_111 : decode cX6_layRow 111 = .ok (.goto (-99), 3) := by decide +kernel
theorem dX6_layRow_114 : decode cX6_layRow 114 = .ok (.iconst 0, 1) := by decide +kernel
theorem dX6_layRow_115 : decode cX6_layRow 115 = .ok (.istore 4, 2) := by decide +kernel
theorem dX6_layRow_117 : decode cX6_layRow 117 = .ok (.iload 4, 2) := by decide +kernel
theorem dX6_layRow_119 : decode cX6_layRow 119 = .ok (.aload_n 0, 1) := by decide +kernel
theorem dX6_layRow_120 : decode cX6_layRow 120 = .ok (.getfield 72, 3) := by decide +kernel
theorem dX6_layRow_123 : decode cX6_layRow 123 = .ok (.if_icmp .ge 79, 3) := by decide +kernel
theorem dX6_layRow_126 : decode cX6_layRow 126 = .ok (.aload_n 0, 1) := by decide +kernel
theorem dX6_layRow_127 : decode cX6_layRow 127 = .ok (.iload 4, 2) := by decide +kernel
theorem dX6_layRow_129 : decode cX6_layRow 129 = .ok (.invokevirtual 95, 3) := by decide +kernel
theorem dX6_layRow_132 : decode cX6_layRow 132 = .ok (.invokestatic 132, 3) := by decide +kernel
theorem dX6_layRow_135 : decode cX6_layRow 135 = .ok (.istore 5, 2) := by decide +kernel
theorem dX6_layRow_137 : decode cX6_layRow 137 = .ok (.iconst 0, 1) := by decide +kernel
theorem dX6_layRow_138 : decode cX6_layRow 138 = .ok (.istore 6, 2) := by decide +kernel
theorem dX6_layRow_140 : decode cX6_layRow 140 = .ok (.iload 6, 2) := by decide +kernel
theorem dX6_layRow_142 : decode cX6_layRow 142 = .ok (.aload_n 0, 1) := by decide +kernel
theorem dX6_layRow_143 : decode cX6_layRow 143 = .ok (.getfield 75, 3) := by decide +kernel
theorem dX6_layRow_146 : decode cX6_layRow 146 = .ok (.if_icmp .ge 31, 3) := by decide +kernel
theorem dX6_layRow_149 : decode cX6_layRow 149 = .ok (.iload 5, 2) := by decide +kernel
theorem dX6_layRow_151 : decode cX6_layRow 151 = .ok (.aload_n 0, 1) := by decide +kernel
theorem dX6_layRow_152 : decode cX6_layRow 152 = .ok (.getfield 19, 3) := by decide +kernel
theorem dX6_layRow_155 : decode cX6_layRow 155 = .ok (.iload 6, 2) := by decide +kernel
theorem dX6_layRow_157 : decode cX6_layRow 157 = .ok (.iaload, 1) := by decide +kernel
theorem dX6_layRow_158 : decode cX6_layRow 158 = .ok (.iload 4, 2) := by decide +kernel
theorem dX6_layRow_160 : decode cX6_layRow 160 = .ok (.if_icmp .ne 7, 3) := by decide +kernel
theorem dX6_layRow_163 : decode cX6_layRow 163 = .ok (.iconst 1, 1) := by decide +kernel
theorem dX6_layRow_164 : decode cX6_layRow 164 = .ok (.goto 4, 3) := by decide +kernel
theorem dX6_layRow_167 : decode cX6_layRow 167 = .ok (.iconst 0, 1) := by decide +kernel
theorem dX6_layRow_168 : decode cX6_layRow 168 = .ok (.iadd, 1) := by decide +kernel
theorem dX6_layRow_169 : decode cX6_layRow 169 = .ok (.istore 5, 2) := by decide +kernel
theorem dX6_layRow_171 : decode cX6_layRow 171 = .ok (.iinc 6 1, 3) := by decide +kernel
theorem dX6_layRow_174 : decode cX6_layRow 174 = .ok (.goto (-34), 3) := by decide +kernel
theorem dX6_layRow_177 : decode cX6_layRow 177 = .ok (.iload 5, 2) := by decide +kernel
theorem dX6_layRow_179 : decode cX6_layRow 179 = .ok (.iconst 2, 1) := by decide +kernel
theorem dX6_layRow_180 : decode cX6_layRow 180 = .ok (.if_icmp .le 7, 3) := by decide +kernel
theorem dX6_layRow_183 : decode cX6_layRow 183 = .ok (.iconst (-1), 1) := by decide +kernel
theorem dX6_layRow_184 : decode cX6_layRow 184 = .ok (.goto 4, 3) := by decide +kernel
theorem dX6_layRow_187 : decode cX6_layRow 187 = .ok (.iload_n 3, 1) := by decide +kernel
theorem dX6_layRow_188 : decode cX6_layRow 188 = .ok (.istore_n 3, 1) := by decide +kernel
theorem dX6_layRow_189 : decode cX6_layRow 189 = .ok (.iload_n 3, 1) := by decide +kernel
theorem dX6_layRow_190 : decode cX6_layRow 190 = .ok (.iconst (-1), 1) := by decide +kernel
theorem dX6_layRow_191 : decode cX6_layRow 191 = .ok (.if_icmp .ne 5, 3) := by decide +kernel
theorem dX6_layRow_194 : decode cX6_layRow 194 = .ok (.iconst (-1), 1) := by decide +kernel
theorem dX6_layRow_195 : decode cX6_layRow 195 = .ok (.ireturn, 1) := by decide +kernel
theorem dX6_layRow_196 : decode cX6_layRow 196 = .ok (.iinc 4 1, 3) := by decide +kernel
theorem dX6_layRow_199 : decode cX6_layRow 199 = .ok (.goto (-82), 3) := by decide +kernel
theorem dX6_layRow_202 : decode cX6_layRow 202 = .ok (.iload_n 3, 1) := by decide +kernel
theorem dX6_layRow_203 : decode cX6_layRow 203 = .ok (.ireturn, 1) := by decide +kernel
set_option maxRecDepth 20000 in
theorem ggX6_matchOf_X6_layRow : GoodIn wsX6_matchOf wsX6_layRow := goodIn_r _ [9, 1, 3, 2, 10, 11, 12, 13, 8, 14, 15, 16, 17, 18, 19, 20, 21, 22, 23, 24, 25, 29, 30, 31, 32, 33, 34, 35, 36, 37, 38, 39, 40, 41, 42, 43, 44, 45, 46, 47, 48, 49, 50] (by decide +kernel) (by decide +kernel)
set_option maxRecDepth 20000 in
theorem gX6_matchOf_X6_layRow : GoodIn wsX6_matchOf (wsV RX6 158 RX6 yX6_layRow wsX6_layRow) := goodIn_app (goodIn_of _ (by decide +kernel)) ggX6_matchOf_X6_layRow
set_option maxRecDepth 20000 in
theorem ggX6_matchOf_X6_copy : GoodIn wsX6_matchOf wsX6_copy := goodIn_r _ [28] (by decide +kernel) (by decide +kernel)
set_option maxRecDepth 20000 in
theorem gX6_matchOf_X6_copy : GoodIn wsX6_matchOf (va_wsS RX6 161 yX6_copy wsX6_copy) := goodIn_app (goodIn_of _ (by decide +kernel)) ggX6_matchOf_X6_copy
theorem dX6_matchOf_0 : decode cX6_matchOf 0 = .ok (.iconst 1, 1) := by decide +kernel
theorem dX6_matchOf_1 : decode cX6_matchOf 1 = .ok (.istore_n 2, 1) := by decide +kernel
theorem dX6_matchOf_2 : decode cX6_matchOf 2 = .ok (.iconst 0, 1) := by decide +kernel
theorem dX6_matchOf_3 : decode cX6_matchOf 3 = .ok (.istore_n 3, 1) := by decide +kernel
theorem dX6_matchOf_4 : decode cX6_matchOf 4 = .ok (.iload_n 3, 1) := by decide +kernel
theorem dX6_matchOf_5 : decode cX6_matchOf 5 = .ok (.aload_n 0, 1) := by decide +kernel
theorem dX6_matchOf_6 : decode cX6_matchOf 6 = .ok (.getfield 75, 3) := by decide +kernel
theorem dX6_matchOf_9 : decode cX6_matchOf 9 = .ok (.if_icmp .ge 18, 3) := by decide +kernel
theorem dX6_matchOf_12 : decode cX6_matchOf 12 = .ok (.iload_n 2, 1) := by decide +kernel
theorem dX6_matchOf_13 : decode cX6_matchOf 13 = .ok (.aload_n 0, 1) := by decide +kernel
theorem dX6_matchOf_14 : decode cX6_matchOf 14 = .ok (.getfield 72, 3) := by decide +kernel
theorem dX6_matchOf_17 : decode cX6_matchOf 17 = .ok (.iconst 1, 1) := by decide +kernel
theorem dX6_matchOf_18 : decode cX6_matchOf 18 = .ok (.iadd, 1) := by decide +kernel
theorem dX6_matchOf_19 : decode cX6_matchOf 19 = .ok (.imul, 1) := by decide +kernel
theorem dX6_matchOf_20 : decode cX6_matchOf 20 = .ok (.istore_n 2, 1) := by decide +kernel
theorem dX6_matchOf_21 : decode cX6_matchOf 21 = .ok (.iinc 3 1, 3) := by decide +kernel
theorem dX6_matchOf_24 : decode cX6_matchOf 24 = .ok (.goto (-20), 3) := by decide +kernel
theorem dX6_matchOf_27 : decode cX6_matchOf 27 = .ok (.iconst (-1), 1) := by decide +kernel
theorem dX6_matchOf_28 : decode cX6_matchOf 28 = .ok (.istore_n 3, 1) := by decide +kernel
theorem dX6_matchOf_29 : decode cX6_matchOf 29 = .ok (.iconst 0, 1) := by decide +kernel
theorem dX6_matchOf_30 : decode cX6_matchOf 30 = .ok (.istore 4, 2) := by decide +kernel
theorem dX6_matchOf_32 : decode cX6_matchOf 32 = .ok (.iload 4, 2) := by decide +kernel
theorem dX6_matchOf_34 : decode cX6_matchOf 34 = .ok (.iload_n 2, 1) := by decide +kernel
theorem dX6_matchOf_35 : decode cX6_matchOf 35 = .ok (.if_icmp .ge 37, 3) := by decide +kernel
theorem dX6_matchOf_38 : decode cX6_matchOf 38 = .ok (.aload_n 0, 1) := by decide +kernel
theorem dX6_matchOf_39 : decode cX6_matchOf 39 = .ok (.iload 4, 2) := by decide +kernel
theorem dX6_matchOf_41 : decode cX6_matchOf 41 = .ok (.invokevirtual 158, 3) := by decide +kernel
theorem dX6_matchOf_44 : decode cX6_matchOf 44 = .ok (.istore 5, 2) := by decide +kernel
theorem dX6_matchOf_46 : decode cX6_matchOf 46 = .ok (.iload 5, 2) := by decide +kernel
theorem dX6_matchOf_48 : decode cX6_matchOf 48 = .ok (.iload_n 3, 1) := by decide +kernel
theorem dX6_matchOf_49 : decode cX6_matchOf 49 = .ok (.if_icmp .le 17, 3) := by decide +kernel
theorem dX6_matchOf_52 : decode cX6_matchOf 52 = .ok (.iload 5, 2) := by decide +kernel
theorem dX6_matchOf_54 : decode cX6_matchOf 54 = .ok (.istore_n 3, 1) := by decide +kernel
theorem dX6_matchOf_55 : decode cX6_matchOf 55 = .ok (.aload_n 0, 1) := by decide +kernel
theorem dX6_matchOf_56 : decode cX6_matchOf 56 = .ok (.getfield 19, 3) := by decide +kernel
theorem dX6_matchOf_59 : decode cX6_matchOf 59 = .ok (.aload_n 0, 1) := by decide +kernel
theorem dX6_matchOf_60 : decode cX6_matchOf 60 = .ok (.getfield 22, 3) := by decide +kernel
theorem dX6_matchOf_63 : decode cX6_matchOf 63 = .ok (.invokestatic 161, 3) := by decide +kernel
theorem dX6_matchOf_66 : decode cX6_matchOf 66 = .ok (.iinc 4 1, 3) := by decide +kernel
theorem dX6_matchOf_69 : decode cX6_matchOf 69 = .ok (.goto (-37), 3) := by decide +kernel
theorem dX6_matchOf_72 : decode cX6_matchOf 72 = .ok (.iload_n 1, 1) := by decide +kernel
theorem dX6_matchOf_73 : decode cX6_matchOf 73 = .ok (.ifCond .ne 7, 3) := by decide +kernel
theorem dX6_matchOf_76 : decode cX6_matchOf 76 = .ok (.iload_n 3, 1) := by decide +kernel
theorem dX6_matchOf_77 : decode cX6_matchOf 77 = .ok (.goto 27, 3) := by decide +kernel
theorem dX6_matchOf_80 : decode cX6_matchOf 80 = .ok (.iload_n 1, 1) := by decide +kernel
theorem dX6_matchOf_81 : decode cX6_matchOf 81 = .ok (.bipush 10, 2) := by decide +kernel
theorem dX6_matchOf_83 : decode cX6_matchOf 83 = .ok (.isub, 1) := by decide +kernel
theorem dX6_matchOf_84 : decode cX6_matchOf 84 = .ok (.aload_n 0, 1) := by decide +kernel
theorem dX6_matchOf_85 : decode cX6_matchOf 85 = .ok (.getfield 75, 3) := by decide +kernel
theorem dX6_matchOf_88 : decode cX6_matchOf 88 = .ok (.if_icmp .ge 15, 3) := by decide +kernel
theorem dX6_matchOf_91 : decode cX6_matchOf 91 = .ok (.aload_n 0, 1) := by decide +kernel
theorem dX6_matchOf_92 : decode cX6_matchOf 92 = .ok (.getfield 22, 3) := by decide +kernel
theorem dX6_matchOf_95 : decode cX6_matchOf 95 = .ok (.iload_n 1, 1) := by decide +kernel
theorem dX6_matchOf_96 : decode cX6_matchOf 96 = .ok (.bipush 10, 2) := by decide +kernel
theorem dX6_matchOf_98 : decode cX6_matchOf 98 = .ok (.isub, 1) := by decide +kernel
theorem dX6_matchOf_99 : decode cX6_matchOf 99 = .ok (.iaload, 1) := by decide +kernel
theorem dX6_matchOf_100 : decode cX6_matchOf 100 = .ok (.goto 4, 3) := by decide +kernel
theorem dX6_matchOf_103 : decode cX6_matchOf 103 = .ok (.iconst (-1), 1) := by decide +kernel
theorem dX6_matchOf_104 : decode cX6_matchOf 104 = .ok (.ireturn, 1) := by decide +kernel
set_option maxRecDepth 20000 in
theorem ggX6_match_X6_in : GoodIn wsX6_match wsX6_in := goodIn_r _ [6] (by decide +kernel) (by decide +kernel)
set_option maxRecDepth 20000 in
theorem gX6_match_X6_in : GoodIn wsX6_match (va_wsS RX6 46 yX6_in wsX6_in) := goodIn_app (goodIn_of _ (by decide +kernel)) ggX6_match_X6_in
set_option maxRecDepth 20000 in
theorem ggX6_match_X6_lacks : GoodIn wsX6_match wsX6_lacks := goodIn_r _ [10, 11, 42, 43, 44, 45, 46, 47, 48, 49, 50, 51, 52, 53, 54, 55, 56, 57, 58, 59, 60, 61, 62, 63] (by decide +kernel) (by decide +kernel)
set_option maxRecDepth 20000 in
theorem gX6_match_X6_lacks : GoodIn wsX6_match (wsV RX6 135 RX6 yX6_lacks wsX6_lacks) := goodIn_app (goodIn_of _ (by decide +kernel)) ggX6_match_X6_lacks
set_option maxRecDepth 20000 in
theorem ggX6_match_X6_matchOf : GoodIn wsX6_match wsX6_matchOf := goodIn_r _ [15, 11, 16, 17, 18, 19, 20, 21, 5, 22, 23, 24, 25, 26, 27, 28, 29, 30, 31, 32, 33, 34, 35, 36, 37, 38, 39, 40, 41, 42, 43, 44, 45, 46, 47, 48, 49, 50, 51, 52, 53, 54, 55, 56, 57, 58, 59, 60, 61, 62, 63] (by decide +kernel) (by decide +kernel)
set_option maxRecDepth 20000 in
theorem gX6_match_X6_matchOf : GoodIn wsX6_match (wsV RX6 167 RX6 yX6_matchOf wsX6_matchOf) := goodIn_app (goodIn_of _ (by decide +kernel)) ggX6_match_X6_matchOf
theorem dX6_match_0 : decode cX6_match 0 = .ok (.iload_n 1, 1) := by decide +kernel
theorem dX6_match_1 : decode cX6_match 1 = .ok (.ifCond .eq 20, 3) := by decide +kernel
theorem dX6_match_4 : decode cX6_match 4 = .ok (.iload_n 1, 1) := by decide +kernel
theorem dX6_match_5 : decode cX6_match 5 = .ok (.i2l, 1) := by decide +kernel
theorem dX6_match_6 : decode cX6_match 6 = .ok (.ldc2_w 142, 3) := by decide +kernel
theorem dX6_match_9 : decode cX6_match 9 = .ok (.ldc2_w 165, 3) := by decide +kernel
theorem dX6_match_12 : decode cX6_match 12 = .ok (.invokestatic 46, 3) := by decide +kernel
theorem dX6_match_15 : decode cX6_match 15 = .ok (.ifCond .ne 6, 3) := by decide +kernel
theorem dX6_match_18 : decode cX6_match 18 = .ok (.bipush (-102), 2) := by decide +kernel
theorem dX6_match_20 : decode cX6_match 20 = .ok (.ireturn, 1) := by decide +kernel
theorem dX6_match_21 : decode cX6_match 21 = .ok (.aload_n 0, 1) := by decide +kernel
theorem dX6_match_22 : decode cX6_match 22 = .ok (.invokevirtual 135, 3) := by decide +kernel
theorem dX6_match_25 : decode cX6_match 25 = .ok (.ifCond .eq 8, 3) := by decide +kernel
theorem dX6_match_28 : decode cX6_match 28 = .ok (.bipush (-103), 2) := by decide +kernel
theorem dX6_match_30 : decode cX6_match 30 = .ok (.goto 8, 3) := by decide +kernel
theorem dX6_match_33 : decode cX6_match 33 = .ok (.aload_n 0, 1) := by decide +kernel
theorem dX6_match_34 : decode cX6_match 34 = .ok (.iload_n 1, 1) := by decide +kernel
theorem dX6_match_35 : decode cX6_match 35 = .ok (.invokevirtual 167, 3) := by decide +kernel
theorem dX6_match_38 : decode cX6_match 38 = .ok (.ireturn, 1) := by decide +kernel
set_option maxRecDepth 20000 in
theorem ggX6_see_X6_isKeeper : GoodIn wsX6_see wsX6_isKeeper := goodIn_r _ [8, 9, 10, 11, 7, 12, 13, 14, 15, 16, 17, 18, 19, 20, 21, 22, 23, 24, 25, 26, 27, 28, 29, 30, 31, 32, 33, 34] (by decide +kernel) (by decide +kernel)
set_option maxRecDepth 20000 in
theorem gX6_see_X6_isKeeper : GoodIn wsX6_see (wsV RX6 107 RX6 yX6_isKeeper wsX6_isKeeper) := goodIn_app (goodIn_of _ (by decide +kernel)) ggX6_see_X6_isKeeper
set_option maxRecDepth 20000 in
theorem ggX6_see_X6_in : GoodIn wsX6_see wsX6_in := goodIn_r _ [12] (by decide +kernel) (by decide +kernel)
set_option maxRecDepth 20000 in
theorem gX6_see_X6_in : GoodIn wsX6_see (va_wsS RX6 46 yX6_in wsX6_in) := goodIn_app (goodIn_of _ (by decide +kernel)) ggX6_see_X6_in
theorem dX6_see_0 : decode cX6_see 0 = .ok (.aload_n 0, 1) := by decide +kernel
theorem dX6_see_1 : decode cX6_see 1 = .ok (.iload_n 1, 1) := by decide +kernel
theorem dX6_see_2 : decode cX6_see 2 = .ok (.invokevirtual 107, 3) := by decide +kernel
theorem dX6_see_5 : decode cX6_see 5 = .ok (.ifCond .ne 6, 3) := by decide +kernel
theorem dX6_see_8 : decode cX6_see 8 = .ok (.bipush (-101), 2) := by decide +kernel
theorem dX6_see_10 : decode cX6_see 10 = .ok (.ireturn, 1) := by decide +kernel
theorem dX6_see_11 : decode cX6_see 11 = .ok (.iload_n 2, 1) := by decide +kernel
theorem dX6_see_12 : decode cX6_see 12 = .ok (.i2l, 1) := by decide +kernel
theorem dX6_see_13 : decode cX6_see 13 = .ok (.lconst 0, 1) := by decide +kernel
theorem dX6_see_14 : decode cX6_see 14 = .ok (.ldc2_w 116, 3) := by decide +kernel
theorem dX6_see_17 : decode cX6_see 17 = .ok (.invokestatic 46, 3) := by decide +kernel
theorem dX6_see_20 : decode cX6_see 20 = .ok (.ifCond .ne 6, 3) := by decide +kernel
theorem dX6_see_23 : decode cX6_see 23 = .ok (.bipush (-102), 2) := by decide +kernel
theorem dX6_see_25 : decode cX6_see 25 = .ok (.ireturn, 1) := by decide +kernel
theorem dX6_see_26 : decode cX6_see 26 = .ok (.aload_n 0, 1) := by decide +kernel
theorem dX6_see_27 : decode cX6_see 27 = .ok (.getfield 85, 3) := by decide +kernel
theorem dX6_see_30 : decode cX6_see 30 = .ok (.bipush 8, 2) := by decide +kernel
theorem dX6_see_32 : decode cX6_see 32 = .ok (.if_icmp .ne 6, 3) := by decide +kernel
theorem dX6_see_35 : decode cX6_see 35 = .ok (.bipush (-104), 2) := by decide +kernel
theorem dX6_see_37 : decode cX6_see 37 = .ok (.ireturn, 1) := by decide +kernel
theorem dX6_see_38 : decode cX6_see 38 = .ok (.aload_n 0, 1) := by decide +kernel
theorem dX6_see_39 : decode cX6_see 39 = .ok (.getfield 25, 3) := by decide +kernel
theorem dX6_see_42 : decode cX6_see 42 = .ok (.iconst 3, 1) := by decide +kernel
theorem dX6_see_43 : decode cX6_see 43 = .ok (.aload_n 0, 1) := by decide +kernel
theorem dX6_see_44 : decode cX6_see 44 = .ok (.getfield 85, 3) := by decide +kernel
theorem dX6_see_47 : decode cX6_see 47 = .ok (.imul, 1) := by decide +kernel
theorem dX6_see_48 : decode cX6_see 48 = .ok (.iload_n 1, 1) := by decide +kernel
theorem dX6_see_49 : decode cX6_see 49 = .ok (.iastore, 1) := by decide +kernel
theorem dX6_see_50 : decode cX6_see 50 = .ok (.aload_n 0, 1) := by decide +kernel
theorem dX6_see_51 : decode cX6_see 51 = .ok (.getfield 25, 3) := by decide +kernel
theorem dX6_see_54 : decode cX6_see 54 = .ok (.iconst 3, 1) := by decide +kernel
theorem dX6_see_55 : decode cX6_see 55 = .ok (.aload_n 0, 1) := by decide +kernel
theorem dX6_see_56 : decode cX6_see 56 = .ok (.getfield 85, 3) := by decide +kernel
theorem dX6_see_59 : decode cX6_see 59 = .ok (.imul, 1) := by decide +kernel
theorem dX6_see_60 : decode cX6_see 60 = .ok (.iconst 1, 1) := by decide +kernel
theorem dX6_see_61 : decode cX6_see 61 = .ok (.iadd, 1) := by decide +kernel
theorem dX6_see_62 : decode cX6_see 62 = .ok (.iload_n 2, 1) := by decide +kernel
theorem dX6_see_63 : decode cX6_see 63 = .ok (.iastore, 1) := by decide +kernel
theorem dX6_see_64 : decode cX6_see 64 = .ok (.aload_n 0, 1) := by decide +kernel
theorem dX6_see_65 : decode cX6_see 65 = .ok (.getfield 25, 3) := by decide +kernel
theorem dX6_see_68 : decode cX6_see 68 = .ok (.iconst 3, 1) := by decide +kernel
theorem dX6_see_69 : decode cX6_see 69 = .ok (.aload_n 0, 1) := by decide +kernel
theorem dX6_see_70 : decode cX6_see 70 = .ok (.getfield 85, 3) := by decide +kernel
theorem dX6_see_73 : decode cX6_see 73 = .ok (.imul, 1) := by decide +kernel
theorem dX6_see_74 : decode cX6_see 74 = .ok (.iconst 2, 1) := by decide +kernel
theorem dX6_see_75 : decode cX6_see 75 = .ok (.iadd, 1) := by decide +kernel
theorem dX6_see_76 : decode cX6_see 76 = .ok (.iload_n 3, 1) := by decide +kernel
theorem dX6_see_77 : decode cX6_see 77 = .ok (.ifCond .eq 7, 3) := by decide +kernel
theorem dX6_see_80 : decode cX6_see 80 = .ok (.iconst 1, 1) := by decide +kernel
theorem dX6_see_81 : decode cX6_see 81 = .ok (.goto 4, 3) := by decide +kernel
theorem dX6_see_84 : decode cX6_see 84 = .ok (.iconst 0, 1) := by decide +kernel
theorem dX6_see_85 : decode cX6_see 85 = .ok (.iastore, 1) := by decide +kernel
theorem dX6_see_86 : decode cX6_see 86 = .ok (.aload_n 0, 1) := by decide +kernel
theorem dX6_see_87 : decode cX6_see 87 = .ok (.dup, 1) := by decide +kernel
theorem dX6_see_88 : decode cX6_see 88 = .ok (.getfield 85, 3) := by decide +kernel
theorem dX6_see_91 : decode cX6_see 91 = .ok (.iconst 1, 1) := by decide +kernel
theorem dX6_see_92 : decode cX6_see 92 = .ok (.iadd, 1) := by decide +kernel
theorem dX6_see_93 : decode cX6_see 93 = .ok (.putfield 85, 3) := by decide +kernel
theorem dX6_see_96 : decode cX6_see 96 = .ok (.aload_n 0, 1) := by decide +kernel
theorem dX6_see_97 : decode cX6_see 97 = .ok (.getfield 85, 3) := by decide +kernel
theorem dX6_see_100 : decode cX6_see 100 = .ok (.ireturn, 1) := by decide +kernel
theorem dX6_forget_0 : decode cX6_forget 0 = .ok (.aload_n 0, 1) := by decide +kernel
theorem dX6_forget_1 : decode cX6_forget 1 = .ok (.getfield 85, 3) := by decide +kernel
theorem dX6_forget_4 : decode cX6_forget 4 = .ok (.istore_n 1, 1) := by decide +kernel
theorem dX6_forget_5 : decode cX6_forget 5 = .ok (.aload_n 0, 1) := by decide +kernel
theorem dX6_forget_6 : decode cX6_forget 6 = .ok (.iconst 0, 1) := by decide +kernel
theorem dX6_forget_7 : decode cX6_forget 7 = .ok (.putfield 85, 3) := by decide +kernel
theorem dX6_forget_10 : decode cX6_forget 10 = .ok (.iload_n 1, 1) := by decide +kernel
theorem dX6_forget_11 : decode cX6_forget 11 = .ok (.ireturn, 1) := by decide +kernel
set_option maxRecDepth 20000 in
theorem ggX6_waysBy_X6_tenthsBy : GoodIn wsX6_waysBy wsX6_tenthsBy := goodIn_r _ [7] (by decide +kernel) (by decide +kernel)
set_option maxRecDepth 20000 in
theorem gX6_waysBy_X6_tenthsBy : GoodIn wsX6_waysBy (va_wsS RX6 91 yX6_tenthsBy wsX6_tenthsBy) := goodIn_app (goodIn_of _ (by decide +kernel)) ggX6_waysBy_X6_tenthsBy
theorem dX6_waysBy_0 : decode cX6_waysBy 0 = .ok (.lconst 1, 1) := by decide +kernel
theorem dX6_waysBy_1 : decode cX6_waysBy 1 = .ok (.lstore_n 3, 1) := by decide +kernel
theorem dX6_waysBy_2 : decode cX6_waysBy 2 = .ok (.iconst 0, 1) := by decide +kernel
theorem dX6_waysBy_3 : decode cX6_waysBy 3 = .ok (.istore 5, 2) := by decide +kernel
theorem dX6_waysBy_5 : decode cX6_waysBy 5 = .ok (.iload 5, 2) := by decide +kernel
theorem dX6_waysBy_7 : decode cX6_waysBy 7 = .ok (.aload_n 0, 1) := by decide +kernel
theorem dX6_waysBy_8 : decode cX6_waysBy 8 = .ok (.getfield 85, 3) := by decide +kernel
theorem dX6_waysBy_11 : decode cX6_waysBy 11 = .ok (.if_icmp .ge 81, 3) := by decide +kernel
theorem dX6_waysBy_14 : decode cX6_waysBy 14 = .ok (.aload_n 0, 1) := by decide +kernel
theorem dX6_waysBy_15 : decode cX6_waysBy 15 = .ok (.getfield 13, 3) := by decide +kernel
theorem dX6_waysBy_18 : decode cX6_waysBy 18 = .ok (.iconst 3, 1) := by decide +kernel
theorem dX6_waysBy_19 : decode cX6_waysBy 19 = .ok (.iload_n 1, 1) := by decide +kernel
theorem dX6_waysBy_20 : decode cX6_waysBy 20 = .ok (.imul, 1) := by decide +kernel
theorem dX6_waysBy_21 : decode cX6_waysBy 21 = .ok (.iaload, 1) := by decide +kernel
theorem dX6_waysBy_22 : decode cX6_waysBy 22 = .ok (.iload_n 2, 1) := by decide +kernel
theorem dX6_waysBy_23 : decode cX6_waysBy 23 = .ok (.aload_n 0, 1) := by decide +kernel
theorem dX6_waysBy_24 : decode cX6_waysBy 24 = .ok (.getfield 25, 3) := by decide +kernel
theorem dX6_waysBy_27 : decode cX6_waysBy 27 = .ok (.iconst 3, 1) := by decide +kernel
theorem dX6_waysBy_28 : decode cX6_waysBy 28 = .ok (.iload 5, 2) := by decide +kernel
theorem dX6_waysBy_30 : decode cX6_waysBy 30 = .ok (.imul, 1) := by decide +kernel
theorem dX6_waysBy_31 : decode cX6_waysBy 31 = .ok (.iconst 1, 1) := by decide +kernel
theorem dX6_waysBy_32 : decode cX6_waysBy 32 = .ok (.iadd, 1) := by decide +kernel
theorem dX6_waysBy_33 : decode cX6_waysBy 33 = .ok (.iaload, 1) := by decide +kernel
theorem dX6_waysBy_34 : decode cX6_waysBy 34 = .ok (.invokestatic 91, 3) := by decide +kernel
theorem dX6_waysBy_37 : decode cX6_waysBy 37 = .ok (.istore 6, 2) := by decide +kernel
theorem dX6_waysBy_39 : decode cX6_waysBy 39 = .ok (.lload_n 3, 1) := by decide +kernel
theorem dX6_waysBy_40 : decode cX6_waysBy 40 = .ok (.aload_n 0, 1) := by decide +kernel
theorem dX6_waysBy_41 : decode cX6_waysBy 41 = .ok (.getfield 25, 3) := by decide +kernel
theorem dX6_waysBy_44 : decode cX6_waysBy 44 = .ok (.iconst 3, 1) := by decide +kernel
theorem dX6_waysBy_45 : decode cX6_waysBy 45 = .ok (.iload 5, 2) := by decide +kernel
theorem dX6_waysBy_47 : decode cX6_waysBy 47 = .ok (.imul, 1) := by decide +kernel
theorem dX6_waysBy_48 : decode cX6_waysBy 48 = .ok (.iaload, 1) := by decide +kernel
theorem dX6_waysBy_49 : decode cX6_waysBy 49 = .ok (.iload_n 1, 1) := by decide +kernel
theorem dX6_waysBy_50 : decode cX6_waysBy 50 = .ok (.if_icmp .eq 7, 3) := by decide +kernel
theorem dX6_waysBy_53 : decode cX6_waysBy 53 = .ok (.lconst 1, 1) := by decide +kernel
theorem dX6_waysBy_54 : decode cX6_waysBy 54 = .ok (.goto 30, 3) := by decide +kernel
theorem dX6_waysBy_57 : decode cX6_waysBy 57 = .ok (.aload_n 0, 1) := by decide +kernel
theorem dX6_waysBy_58 : decode cX6_waysBy 58 = .ok (.getfield 25, 3) := by decide +kernel
theorem dX6_waysBy_61 : decode cX6_waysBy 61 = .ok (.iconst 3, 1) := by decide +kernel
theorem dX6_waysBy_62 : decode cX6_waysBy 62 = .ok (.iload 5, 2) := by decide +kernel
theorem dX6_waysBy_64 : decode cX6_waysBy 64 = .ok (.imul, 1) := by decide +kernel
theorem dX6_waysBy_65 : decode cX6_waysBy 65 = .ok (.iconst 2, 1) := by decide +kernel
theorem dX6_waysBy_66 : decode cX6_waysBy 66 = .ok (.iadd, 1) := by decide +kernel
theorem dX6_waysBy_67 : decode cX6_waysBy 67 = .ok (.iaload, 1) := by decide +kernel
theorem dX6_waysBy_68 : decode cX6_waysBy 68 = .ok (.iconst 1, 1) := by decide +kernel
theorem dX6_waysBy_69 : decode cX6_waysBy 69 = .ok (.if_icmp .ne 9, 3) := by decide +kernel
theorem dX6_waysBy_72 : decode cX6_waysBy 72 = .ok (.iload 6, 2) := by decide +kernel
theorem dX6_waysBy_74 : decode cX6_waysBy 74 = .ok (.i2l, 1) := by decide +kernel
theorem dX6_waysBy_75 : decode cX6_waysBy 75 = .ok (.goto 9, 3) := by decide +kernel
theorem dX6_waysBy_78 : decode cX6_waysBy 78 = .ok (.bipush 10, 2) := by decide +kernel
theorem dX6_waysBy_80 : decode cX6_waysBy 80 = .ok (.iload 6, 2) := by decide +kernel
theorem dX6_waysBy_82 : decode cX6_waysBy 82 = .ok (.isub, 1) := by decide +kernel
theorem dX6_waysBy_83 : decode cX6_waysBy 83 = .ok (.i2l, 1) := by decide +kernel
theorem dX6_waysBy_84 : decode cX6_waysBy 84 = .ok (.lmul, 1) := by decide +kernel
theorem dX6_waysBy_85 : decode cX6_waysBy 85 = .ok (.lstore_n 3, 1) := by decide +kernel
theorem dX6_waysBy_86 : decode cX6_waysBy 86 = .ok (.iinc 5 1, 3) := by decide +kernel
theorem dX6_waysBy_89 : decode cX6_waysBy 89 = .ok (.goto (-84), 3) := by decide +kernel
theorem dX6_waysBy_92 : decode cX6_waysBy 92 = .ok (.lload_n 3, 1) := by decide +kernel
theorem dX6_waysBy_93 : decode cX6_waysBy 93 = .ok (.lreturn, 1) := by decide +kernel
set_option maxRecDepth 20000 in
theorem ggX6_faithsOf_X6_waysBy : GoodIn wsX6_faithsOf wsX6_waysBy := goodIn_r _ [5, 6, 7, 8, 9, 10, 4, 11, 12, 13, 14, 15, 16, 17, 18, 19, 20, 21, 22, 23, 24, 25, 26, 27, 28, 29, 30, 31, 32, 33] (by decide +kernel) (by decide +kernel)
set_option maxRecDepth 20000 in
theorem gX6_faithsOf_X6_waysBy : GoodIn wsX6_faithsOf (wsV RX6 170 RX6 yX6_waysBy wsX6_waysBy) := goodIn_app (goodIn_of _ (by decide +kernel)) ggX6_faithsOf_X6_waysBy
theorem dX6_faithsOf_0 : decode cX6_faithsOf 0 = .ok (.iconst 0, 1) := by decide +kernel
theorem dX6_faithsOf_1 : decode cX6_faithsOf 1 = .ok (.istore_n 2, 1) := by decide +kernel
theorem dX6_faithsOf_2 : decode cX6_faithsOf 2 = .ok (.iconst 0, 1) := by decide +kernel
theorem dX6_faithsOf_3 : decode cX6_faithsOf 3 = .ok (.istore_n 3, 1) := by decide +kernel
theorem dX6_faithsOf_4 : decode cX6_faithsOf 4 = .ok (.iload_n 3, 1) := by decide +kernel
theorem dX6_faithsOf_5 : decode cX6_faithsOf 5 = .ok (.bipush 10, 2) := by decide +kernel
theorem dX6_faithsOf_7 : decode cX6_faithsOf 7 = .ok (.if_icmp .ge 30, 3) := by decide +kernel
theorem dX6_faithsOf_10 : decode cX6_faithsOf 10 = .ok (.iload_n 2, 1) := by decide +kernel
theorem dX6_faithsOf_11 : decode cX6_faithsOf 11 = .ok (.aload_n 0, 1) := by decide +kernel
theorem dX6_faithsOf_12 : decode cX6_faithsOf 12 = .ok (.iload_n 1, 1) := by decide +kernel
theorem dX6_faithsOf_13 : decode cX6_faithsOf 13 = .ok (.iload_n 3, 1) := by decide +kernel
theorem dX6_faithsOf_14 : decode cX6_faithsOf 14 = .ok (.invokevirtual 170, 3) := by decide +kernel
theorem dX6_faithsOf_17 : decode cX6_faithsOf 17 = .ok (.lconst 0, 1) := by decide +kernel
theorem dX6_faithsOf_18 : decode cX6_faithsOf 18 = .ok (.lcmp, 1) := by decide +kernel
theorem dX6_faithsOf_19 : decode cX6_faithsOf 19 = .ok (.ifCond .le 9, 3) := by decide +kernel
theorem dX6_faithsOf_22 : decode cX6_faithsOf 22 = .ok (.iconst 1, 1) := by decide +kernel
theorem dX6_faithsOf_23 : decode cX6_faithsOf 23 = .ok (.iload_n 3, 1) := by decide +kernel
theorem dX6_faithsOf_24 : decode cX6_faithsOf 24 = .ok (.ishl, 1) := by decide +kernel
theorem dX6_faithsOf_25 : decode cX6_faithsOf 25 = .ok (.goto 4, 3) := by decide +kernel
theorem dX6_faithsOf_28 : decode cX6_faithsOf 28 = .ok (.iconst 0, 1) := by decide +kernel
theorem dX6_faithsOf_29 : decode cX6_faithsOf 29 = .ok (.ior, 1) := by decide +kernel
theorem dX6_faithsOf_30 : decode cX6_faithsOf 30 = .ok (.istore_n 2, 1) := by decide +kernel
theorem dX6_faithsOf_31 : decode cX6_faithsOf 31 = .ok (.iinc 3 1, 3) := by decide +kernel
theorem dX6_faithsOf_34 : decode cX6_faithsOf 34 = .ok (.goto (-30), 3) := by decide +kernel
theorem dX6_faithsOf_37 : decode cX6_faithsOf 37 = .ok (.iload_n 2, 1) := by decide +kernel
theorem dX6_faithsOf_38 : decode cX6_faithsOf 38 = .ok (.ireturn, 1) := by decide +kernel
set_option maxRecDepth 20000 in
theorem ggX6_likelyOf_X6_waysBy : GoodIn wsX6_likelyOf wsX6_waysBy := goodIn_r _ [5, 6, 7, 8, 9, 10, 4, 11, 12, 13, 14, 15, 16, 17, 18, 19, 20, 21, 22, 23, 24, 25, 26, 27, 28, 29, 30, 31, 32, 33] (by decide +kernel) (by decide +kernel)
set_option maxRecDepth 20000 in
theorem gX6_likelyOf_X6_waysBy : GoodIn wsX6_likelyOf (wsV RX6 170 RX6 yX6_waysBy wsX6_waysBy) := goodIn_app (goodIn_of _ (by decide +kernel)) ggX6_likelyOf_X6_waysBy
theorem dX6_likelyOf_0 : decode cX6_likelyOf 0 = .ok (.iconst (-1), 1) := by decide +kernel
theorem dX6_likelyOf_1 : decode cX6_likelyOf 1 = .ok (.istore_n 2, 1) := by decide +kernel
theorem dX6_likelyOf_2 : decode cX6_likelyOf 2 = .ok (.lconst 0, 1) := by decide +kernel
theorem dX6_likelyOf_3 : decode cX6_likelyOf 3 = .ok (.lstore_n 3, 1) := by decide +kernel
theorem dX6_likelyOf_4 : decode cX6_likelyOf 4 = .ok (.iconst 0, 1) := by decide +kernel
theorem dX6_likelyOf_5 : decode cX6_likelyOf 5 = .ok (.istore 5, 2) := by decide +kernel
theorem dX6_likelyOf_7 : decode cX6_likelyOf 7 = .ok (.iload 5, 2) := by decide +kernel
theorem dX6_likelyOf_9 : decode cX6_likelyOf 9 = .ok (.bipush 10, 2) := by decide +kernel
theorem dX6_likelyOf_11 : decode cX6_likelyOf 11 = .ok (.if_icmp .ge 46, 3) := by decide +kernel
theorem dX6_likelyOf_14 : decode cX6_likelyOf 14 = .ok (.aload_n 0, 1) := by decide +kernel
theorem dX6_likelyOf_15 : decode cX6_likelyOf 15 = .ok (.iload_n 1, 1) := by decide +kernel
theorem dX6_likelyOf_16 : decode cX6_likelyOf 16 = .ok (.iload 5, 2) := by decide +kernel
theorem dX6_likelyOf_18 : decode cX6_likelyOf 18 = .ok (.invokevirtual 170, 3) := by decide +kernel
theorem dX6_likelyOf_21 : decode cX6_likelyOf 21 = .ok (.lstore 6, 2) := by decide +kernel
theorem dX6_likelyOf_23 : decode cX6_likelyOf 23 = .ok (.lload 6, 2) := by decide +kernel
theorem dX6_likelyOf_25 : decode cX6_likelyOf 25 = .ok (.lload_n 3, 1) := by decide +kernel
theorem dX6_likelyOf_26 : decode cX6_likelyOf 26 = .ok (.lcmp, 1) := by decide +kernel
theorem dX6_likelyOf_27 : decode cX6_likelyOf 27 = .ok (.ifCond .le 8, 3) := by decide +kernel
theorem dX6_likelyOf_30 : decode cX6_likelyOf 30 = .ok (.iload 5, 2) := by decide +kernel
theorem dX6_likelyOf_32 : decode cX6_likelyOf 32 = .ok (.goto 4, 3) := by decide +kernel
theorem dX6_likelyOf_35 : decode cX6_likelyOf 35 = .ok (.iload_n 2, 1) := by decide +kernel
theorem dX6_likelyOf_36 : decode cX6_likelyOf 36 = .ok (.istore_n 2, 1) := by decide +kernel
theorem dX6_likelyOf_37 : decode cX6_likelyOf 37 = .ok (.lload 6, 2) := by decide +kernel
theorem dX6_likelyOf_39 : decode cX6_likelyOf 39 = .ok (.lload_n 3, 1) := by decide +kernel
theorem dX6_likelyOf_40 : decode cX6_likelyOf 40 = .ok (.lcmp, 1) := by decide +kernel
theorem dX6_likelyOf_41 : decode cX6_likelyOf 41 = .ok (.ifCond .le 8, 3) := by decide +kernel
theorem dX6_likelyOf_44 : decode cX6_likelyOf 44 = .ok (.lload 6, 2) := by decide +kernel
theorem dX6_likelyOf_46 : decode cX6_likelyOf 46 = .ok (.goto 4, 3) := by decide +kernel
theorem dX6_likelyOf_49 : decode cX6_likelyOf 49 = .ok (.lload_n 3, 1) := by decide +kernel
theorem dX6_likelyOf_50 : decode cX6_likelyOf 50 = .ok (.lstore_n 3, 1) := by decide +kernel
theorem dX6_likelyOf_51 : decode cX6_likelyOf 51 = .ok (.iinc 5 1, 3) := by decide +kernel
theorem dX6_likelyOf_54 : decode cX6_likelyOf 54 = .ok (.goto (-47), 3) := by decide +kernel
theorem dX6_likelyOf_57 : decode cX6_likelyOf 57 = .ok (.iload_n 2, 1) := by decide +kernel
theorem dX6_likelyOf_58 : decode cX6_likelyOf 58 = .ok (.ireturn, 1) := by decide +kernel
theorem dX6_draw_0 : decode cX6_draw 0 = .ok (.aload_n 0, 1) := by decide +kernel
theorem dX6_draw_1 : decode cX6_draw 1 = .ok (.ldc2_w 173, 3) := by decide +kernel
theorem dX6_draw_4 : decode cX6_draw 4 = .ok (.aload_n 0, 1) := by decide +kernel
theorem dX6_draw_5 : decode cX6_draw 5 = .ok (.getfield 175, 3) := by decide +kernel
theorem dX6_draw_8 : decode cX6_draw 8 = .ok (.i2l, 1) := by decide +kernel
theorem dX6_draw_9 : decode cX6_draw 9 = .ok (.lmul, 1) := by decide +kernel
theorem dX6_draw_10 : decode cX6_draw 10 = .ok (.ldc2_w 178, 3) := by decide +kernel
theorem dX6_draw_13 : decode cX6_draw 13 = .ok (.ladd, 1) := by decide +kernel
theorem dX6_draw_14 : decode cX6_draw 14 = .ok (.ldc2_w 180, 3) := by decide +kernel
theorem dX6_draw_17 : decode cX6_draw 17 = .ok (.land, 1) := by decide +kernel
theorem dX6_draw_18 : decode cX6_draw 18 = .ok (.l2i, 1) := by decide +kernel
theorem dX6_draw_19 : decode cX6_draw 19 = .ok (.putfield 175, 3) := by decide +kernel
theorem dX6_draw_22 : decode cX6_draw 22 = .ok (.aload_n 0, 1) := by decide +kernel
theorem dX6_draw_23 : decode cX6_draw 23 = .ok (.getfield 175, 3) := by decide +kernel
theorem dX6_draw_26 : decode cX6_draw 26 = .ok (.ldc 182, 2) := by decide +kernel
theorem dX6_draw_28 : decode cX6_draw 28 = .ok (.idiv, 1) := by decide +kernel
theorem dX6_draw_29 : decode cX6_draw 29 = .ok (.iload_n 1, 1) := by decide +kernel
theorem dX6_draw_30 : decode cX6_draw 30 = .ok (.irem, 1) := by decide +kernel
theorem dX6_draw_31 : decode cX6_draw 31 = .ok (.ireturn, 1) := by decide +kernel
set_option maxRecDepth 20000 in
theorem ggX6_centuries_X6_in : GoodIn wsX6_centuries wsX6_in := goodIn_r _ [11] (by decide +kernel) (by decide +kernel)
set_option maxRecDepth 20000 in
theorem gX6_centuries_X6_in : GoodIn wsX6_centuries (va_wsS RX6 46 yX6_in wsX6_in) := goodIn_app (goodIn_of _ (by decide +kernel)) ggX6_centuries_X6_in
set_option maxRecDepth 20000 in
theorem ggX6_centuries_X6_lacks : GoodIn wsX6_centuries wsX6_lacks := goodIn_r _ [15, 6, 42, 43, 44, 45, 46, 47, 48, 49, 50, 51, 52, 53, 54, 55, 56, 57, 58, 59, 60, 61, 62, 63] (by decide +kernel) (by decide +kernel)
set_option maxRecDepth 20000 in
theorem gX6_centuries_X6_lacks : GoodIn wsX6_centuries (wsV RX6 135 RX6 yX6_lacks wsX6_lacks) := goodIn_app (goodIn_of _ (by decide +kernel)) ggX6_centuries_X6_lacks
set_option maxRecDepth 20000 in
theorem ggX6_centuries_X6_copy : GoodIn wsX6_centuries wsX6_copy := goodIn_r _ [18] (by decide +kernel) (by decide +kernel)
set_option maxRecDepth 20000 in
theorem gX6_centuries_X6_copy : GoodIn wsX6_centuries (va_wsS RX6 161 yX6_copy wsX6_copy) := goodIn_app (goodIn_of _ (by decide +kernel)) ggX6_centuries_X6_copy
set_option maxRecDepth 20000 in
theorem ggX6_centuries_X6_draw : GoodIn wsX6_centuries wsX6_draw := goodIn_r _ [22, 23, 5, 24, 25, 26, 42, 43, 44, 45, 46, 47, 48, 49, 50, 51, 52, 53, 54, 55, 56, 57, 58, 59, 60, 61, 62, 63] (by decide +kernel) (by decide +kernel)
set_option maxRecDepth 20000 in
theorem gX6_centuries_X6_draw : GoodIn wsX6_centuries (wsV RX6 185 RX6 yX6_draw wsX6_draw) := goodIn_app (goodIn_of _ (by decide +kernel)) ggX6_centuries_X6_draw
set_option maxRecDepth 20000 in
theorem ggX6_centuries_X6_tenthsIn : GoodIn wsX6_centuries wsX6_tenthsIn := goodIn_r _ [30, 3, 31, 32, 33, 10, 34, 7, 35, 36, 37, 42, 43, 44, 45, 46, 47, 48, 49, 50, 51, 52, 53, 54, 55, 56, 57, 58, 59, 60, 61, 62, 63] (by decide +kernel) (by decide +kernel)
set_option maxRecDepth 20000 in
theorem gX6_centuries_X6_tenthsIn : GoodIn wsX6_centuries (wsV RX6 123 RX6 yX6_tenthsIn wsX6_tenthsIn) := goodIn_app (goodIn_of _ (by decide +kernel)) ggX6_centuries_X6_tenthsIn
set_option maxRecDepth 20000 in
theorem ggX6_centuries_X6_eggsIn : GoodIn wsX6_centuries wsX6_eggsIn := goodIn_r _ [41, 6, 3, 42, 43, 44, 45, 46, 47, 48, 49, 50, 51, 52, 53, 54, 55, 56, 57, 58, 59, 60, 61, 62, 63] (by decide +kernel) (by decide +kernel)
set_option maxRecDepth 20000 in
theorem gX6_centuries_X6_eggsIn : GoodIn wsX6_centuries (wsV RX6 98 RX6 yX6_eggsIn wsX6_eggsIn) := goodIn_app (goodIn_of _ (by decide +kernel)) ggX6_centuries_X6_eggsIn
theorem dX6_centuries_0 : decode cX6_centuries 0 = .ok (.iload_n 1, 1) := by decide +kernel
theorem dX6_centuries_1 : decode cX6_centuries 1 = .ok (.i2l, 1) := by decide +kernel
theorem dX6_centuries_2 : decode cX6_centuries 2 = .ok (.lconst 1, 1) := by decide +kernel
theorem dX6_centuries_3 : decode cX6_centuries 3 = .ok (.ldc2_w 183, 3) := by decide +kernel
theorem dX6_centuries_6 : decode cX6_centuries 6 = .ok (.invokestatic 46, 3) := by decide +kernel
theorem dX6_centuries_9 : decode cX6_centuries 9 = .ok (.ifCond .eq 19, 3) := by decide +kernel
theorem dX6_centuries_12 : decode cX6_centuries 12 = .ok (.iload_n 2, 1) := by decide +kernel
theorem dX6_centuries_13 : decode cX6_centuries 13 = .ok (.ifCond .lt 15, 3) := by decide +kernel
theorem dX6_centuries_16 : decode cX6_centuries 16 = .ok (.iload_n 3, 1) := by decide +kernel
theorem dX6_centuries_17 : decode cX6_centuries 17 = .ok (.i2l, 1) := by decide +kernel
theorem dX6_centuries_18 : decode cX6_centuries 18 = .ok (.lconst 0, 1) := by decide +kernel
theorem dX6_centuries_19 : decode cX6_centuries 19 = .ok (.ldc2_w 148, 3) := by decide +kernel
theorem dX6_centuries_22 : decode cX6_centuries 22 = .ok (.invokestatic 46, 3) := by decide +kernel
theorem dX6_centuries_25 : decode cX6_centuries 25 = .ok (.ifCond .ne 6, 3) := by decide +kernel
theorem dX6_centuries_28 : decode cX6_centuries 28 = .ok (.bipush (-102), 2) := by decide +kernel
theorem dX6_centuries_30 : decode cX6_centuries 30 = .ok (.ireturn, 1) := by decide +kernel
theorem dX6_centuries_31 : decode cX6_centuries 31 = .ok (.aload_n 0, 1) := by decide +kernel
theorem dX6_centuries_32 : decode cX6_centuries 32 = .ok (.invokevirtual 135, 3) := by decide +kernel
theorem dX6_centuries_35 : decode cX6_centuries 35 = .ok (.ifCond .eq 6, 3) := by decide +kernel
theorem dX6_centuries_38 : decode cX6_centuries 38 = .ok (.bipush (-103), 2) := by decide +kernel
theorem dX6_centuries_40 : decode cX6_centuries 40 = .ok (.ireturn, 1) := by decide +kernel
theorem dX6_centuries_41 : decode cX6_centuries 41 = .ok (.aload_n 0, 1) := by decide +kernel
theorem dX6_centuries_42 : decode cX6_centuries 42 = .ok (.getfield 16, 3) := by decide +kernel
theorem dX6_centuries_45 : decode cX6_centuries 45 = .ok (.aload_n 0, 1) := by decide +kernel
theorem dX6_centuries_46 : decode cX6_centuries 46 = .ok (.getfield 28, 3) := by decide +kernel
theorem dX6_centuries_49 : decode cX6_centuries 49 = .ok (.invokestatic 161, 3) := by decide +kernel
theorem dX6_centuries_52 : decode cX6_centuries 52 = .ok (.aload_n 0, 1) := by decide +kernel
theorem dX6_centuries_53 : decode cX6_centuries 53 = .ok (.iload_n 2, 1) := by decide +kernel
theorem dX6_centuries_54 : decode cX6_centuries 54 = .ok (.putfield 175, 3) := by decide +kernel
theorem dX6_centuries_57 : decode cX6_centuries 57 = .ok (.iconst 0, 1) := by decide +kernel
theorem dX6_centuries_58 : decode cX6_centuries 58 = .ok (.istore 4, 2) := by decide +kernel
theorem dX6_centuries_60 : decode cX6_centuries 60 = .ok (.iconst 0, 1) := by decide +kernel
theorem dX6_centuries_61 : decode cX6_centuries 61 = .ok (.istore 5, 2) := by decide +kernel
theorem dX6_centuries_63 : decode cX6_centuries 63 = .ok (.iload 5, 2) := by decide +kernel
theorem dX6_centuries_65 : decode cX6_centuries 65 = .ok (.iload_n 1, 1) := by decide +kernel
theorem dX6_centuries_66 : decode cX6_centuries 66 = .ok (.if_icmp .ge 149, 3) := by decide +kernel
theorem dX6_centuries_69 : decode cX6_centuries 69 = .ok (.iconst 0, 1) := by decide +kernel
theorem dX6_centuries_70 : decode cX6_centuries 70 = .ok (.istore 6, 2) := by decide +kernel
theorem dX6_centuries_72 : decode cX6_centuries 72 = .ok (.iload 6, 2) := by decide +kernel
theorem dX6_centuries_74 : decode cX6_centuries 74 = .ok (.aload_n 0, 1) := by decide +kernel
theorem dX6_centuries_75 : decode cX6_centuries 75 = .ok (.getfield 75, 3) := by decide +kernel
theorem dX6_centuries_78 : decode cX6_centuries 78 = .ok (.if_icmp .ge 131, 3) := by decide +kernel
theorem dX6_centuries_81 : decode cX6_centuries 81 = .ok (.aload_n 0, 1) := by decide +kernel
theorem dX6_centuries_82 : decode cX6_centuries 82 = .ok (.getfield 16, 3) := by decide +kernel
theorem dX6_centuries_85 : decode cX6_centuries 85 = .ok (.iconst 4, 1) := by decide +kernel
theorem dX6_centuries_86 : decode cX6_centuries 86 = .ok (.iload 6, 2) := by decide +kernel
theorem dX6_centuries_88 : decode cX6_centuries 88 = .ok (.imul, 1) := by decide +kernel
theorem dX6_centuries_89 : decode cX6_centuries 89 = .ok (.iconst 1, 1) := by decide +kernel
theorem dX6_centuries_90 : decode cX6_centuries 90 = .ok (.iadd, 1) := by decide +kernel
theorem dX6_centuries_91 : decode cX6_centuries 91 = .ok (.iaload, 1) := by decide +kernel
theorem dX6_centuries_92 : decode cX6_centuries 92 = .ok (.iconst (-1), 1) := by decide +kernel
theorem dX6_centuries_93 : decode cX6_centuries 93 = .ok (.if_icmp .eq 110, 3) := by decide +kernel
theorem dX6_centuries_96 : decode cX6_centuries 96 = .ok (.aload_n 0, 1) := by decide +kernel
theorem dX6_centuries_97 : decode cX6_centuries 97 = .ok (.bipush 10, 2) := by decide +kernel
theorem dX6_centuries_99 : decode cX6_centuries 99 = .ok (.invokevirtual 185, 3) := by decide +kernel
theorem dX6_centuries_102 : decode cX6_centuries 102 = .ok (.aload_n 0, 1) := by decide +kernel
theorem dX6_centuries_103 : decode cX6_centuries 103 = .ok (.iload 6, 2) := by decide +kernel
theorem dX6_centuries_105 : decode cX6_centuries 105 = .ok (.invokevirtual 123, 3) := by decide +kernel
theorem dX6_centuries_108 : decode cX6_centuries 108 = .ok (.if_icmp .ge 7, 3) := by decide +kernel
theorem dX6_centuries_111 : decode cX6_centuries 111 = .ok (.iconst 1, 1) := by decide +kernel
theorem dX6_centuries_112 : decode cX6_centuries 112 = .ok (.goto 4, 3) := by decide +kernel
theorem dX6_centuries_115 : decode cX6_centuries 115 = .ok (.iconst 0, 1) := by decide +kernel
theorem dX6_centuries_116 : decode cX6_centuries 116 = .ok (.istore 7, 2) := by decide +kernel
theorem dX6_centuries_118 : decode cX6_centuries 118 = .ok (.iload 4, 2) := by decide +kernel
theorem dX6_centuries_120 : decode cX6_centuries 120 = .ok (.iload 7, 2) := by decide +kernel
theorem dX6_centuries_122 : decode cX6_centuries 122 = .ok (.ifCond .eq 7, 3) := by decide +kernel
theorem dX6_centuries_125 : decode cX6_centuries 125 = .ok (.iconst 0, 1) := by decide +kernel
theorem dX6_centuries_126 : decode cX6_centuries 126 = .ok (.goto 4, 3) := by decide +kernel
theorem dX6_centuries_129 : decode cX6_centuries 129 = .ok (.iconst 1, 1) := by decide +kernel
theorem dX6_centuries_130 : decode cX6_centuries 130 = .ok (.iadd, 1) := by decide +kernel
theorem dX6_centuries_131 : decode cX6_centuries 131 = .ok (.istore 4, 2) := by decide +kernel
theorem dX6_centuries_133 : decode cX6_centuries 133 = .ok (.aload_n 0, 1) := by decide +kernel
theorem dX6_centuries_134 : decode cX6_centuries 134 = .ok (.getfield 16, 3) := by decide +kernel
theorem dX6_centuries_137 : decode cX6_centuries 137 = .ok (.iconst 4, 1) := by decide +kernel
theorem dX6_centuries_138 : decode cX6_centuries 138 = .ok (.iload 6, 2) := by decide +kernel
theorem dX6_centuries_140 : decode cX6_centuries 140 = .ok (.imul, 1) := by decide +kernel
theorem dX6_centuries_141 : decode cX6_centuries 141 = .ok (.iconst 3, 1) := by decide +kernel
theorem dX6_centuries_142 : decode cX6_centuries 142 = .ok (.iadd, 1) := by decide +kernel
theorem dX6_centuries_143 : decode cX6_centuries 143 = .ok (.dup2, 1) := by decide +kernel
theorem dX6_centuries_144 : decode cX6_centuries 144 = .ok (.iaload, 1) := by decide +kernel
theorem dX6_centuries_145 : decode cX6_centuries 145 = .ok (.iload 7, 2) := by decide +kernel
theorem dX6_centuries_147 : decode cX6_centuries 147 = .ok (.ifCond .eq 7, 3) := by decide +kernel
theorem dX6_centuries_150 : decode cX6_centuries 150 = .ok (.iconst 1, 1) := by decide +kernel
theorem dX6_centuries_151 : decode cX6_centuries 151 = .ok (.goto 4, 3) := by decide +kernel
theorem dX6_centuries_154 : decode cX6_centuries 154 = .ok (.iconst 0, 1) := by decide +kernel
theorem dX6_centuries_155 : decode cX6_centuries 155 = .ok (.imul, 1) := by decide +kernel
theorem dX6_centuries_156 : decode cX6_centuries 156 = .ok (.iastore, 1) := by decide +kernel
theorem dX6_centuries_157 : decode cX6_centuries 157 = .ok (.aload_n 0, 1) := by decide +kernel
theorem dX6_centuries_158 : decode cX6_centuries 158 = .ok (.getfield 16, 3) := by decide +kernel
theorem dX6_centuries_161 : decode cX6_centuries 161 = .ok (.iconst 4, 1) := by decide +kernel
theorem dX6_centuries_162 : decode cX6_centuries 162 = .ok (.iload 6, 2) := by decide +kernel
theorem dX6_centuries_164 : decode cX6_centuries 164 = .ok (.imul, 1) := by decide +kernel
theorem dX6_centuries_165 : decode cX6_centuries 165 = .ok (.iconst 3, 1) := by decide +kernel
theorem dX6_centuries_166 : decode cX6_centuries 166 = .ok (.iadd, 1) := by decide +kernel
theorem dX6_centuries_167 : decode cX6_centuries 167 = .ok (.dup2, 1) := by decide +kernel
theorem dX6_centuries_168 : decode cX6_centuries 168 = .ok (.iaload, 1) := by decide +kernel
theorem dX6_centuries_169 : decode cX6_centuries 169 = .ok (.iload 7, 2) := by decide +kernel
theorem dX6_centuries_171 : decode cX6_centuries 171 = .ok (.ifCond .eq 29, 3) := by decide +kernel
theorem dX6_centuries_174 : decode cX6_centuries 174 = .ok (.aload_n 0, 1) := by decide +kernel
theorem dX6_centuries_175 : decode cX6_centuries 175 = .ok (.getfield 13, 3) := by decide +kernel
theorem dX6_centuries_178 : decode cX6_centuries 178 = .ok (.iconst 3, 1) := by decide +kernel
theorem dX6_centuries_179 : decode cX6_centuries 179 = .ok (.aload_n 0, 1) := by decide +kernel
theorem dX6_centuries_180 : decode cX6_centuries 180 = .ok (.getfield 16, 3) := by decide +kernel
theorem dX6_centuries_183 : decode cX6_centuries 183 = .ok (.iconst 4, 1) := by decide +kernel
theorem dX6_centuries_184 : decode cX6_centuries 184 = .ok (.iload 6, 2) := by decide +kernel
theorem dX6_centuries_186 : decode cX6_centuries 186 = .ok (.imul, 1) := by decide +kernel
theorem dX6_centuries_187 : decode cX6_centuries 187 = .ok (.iconst 1, 1) := by decide +kernel
theorem dX6_centuries_188 : decode cX6_centuries 188 = .ok (.iadd, 1) := by decide +kernel
theorem dX6_centuries_189 : decode cX6_centuries 189 = .ok (.iaload, 1) := by decide +kernel
theorem dX6_centuries_190 : decode cX6_centuries 190 = .ok (.imul, 1) := by decide +kernel
theorem dX6_centuries_191 : decode cX6_centuries 191 = .ok (.iaload, 1) := by decide +kernel
theorem dX6_centuries_192 : decode cX6_centuries 192 = .ok (.iconst 2, 1) := by decide +kernel
theorem dX6_centuries_193 : decode cX6_centuries 193 = .ok (.if_icmp .eq 7, 3) := by decide +kernel
theorem dX6_centuries_196 : decode cX6_centuries 196 = .ok (.iconst 1, 1) := by decide +kernel
theorem dX6_centuries_197 : decode cX6_centuries 197 = .ok (.goto 4, 3) := by decide +kernel
theorem dX6_centuries_200 : decode cX6_centuries 200 = .ok (.iconst 0, 1) := by decide +kernel
theorem dX6_centuries_201 : decode cX6_centuries 201 = .ok (.iadd, 1) := by decide +kernel
theorem dX6_centuries_202 : decode cX6_centuries 202 = .ok (.iastore, 1) := by decide +kernel
theorem dX6_centuries_203 : decode cX6_centuries 203 = .ok (.iinc 6 1, 3) := by decide +kernel
theorem dX6_centuries_206 : decode cX6_centuries 206 = .ok (.goto (-134), 3) := by decide +kernel
theorem dX6_centuries_209 : decode cX6_centuries 209 = .ok (.iinc 5 1, 3) := by decide +kernel
theorem dX6_centuries_212 : decode cX6_centuries 212 = .ok (.goto (-149), 3) := by decide +kernel
theorem dX6_centuries_215 : decode cX6_centuries 215 = .ok (.aload_n 0, 1) := by decide +kernel
theorem dX6_centuries_216 : decode cX6_centuries 216 = .ok (.bipush 31, 2) := by decide +kernel
theorem dX6_centuries_218 : decode cX6_centuries 218 = .ok (.invokevirtual 98, 3) := by decide +kernel
theorem dX6_centuries_221 : decode cX6_centuries 221 = .ok (.istore 5, 2) := by decide +kernel
theorem dX6_centuries_223 : decode cX6_centuries 223 = .ok (.aload_n 0, 1) := by decide +kernel
theorem dX6_centuries_224 : decode cX6_centuries 224 = .ok (.getfield 28, 3) := by decide +kernel
theorem dX6_centuries_227 : decode cX6_centuries 227 = .ok (.aload_n 0, 1) := by decide +kernel
theorem dX6_centuries_228 : decode cX6_centuries 228 = .ok (.getfield 16, 3) := by decide +kernel
theorem dX6_centuries_231 : decode cX6_centuries 231 = .ok (.invokestatic 161, 3) := by decide +kernel
theorem dX6_centuries_234 : decode cX6_centuries 234 = .ok (.iload_n 3, 1) := by decide +kernel
theorem dX6_centuries_235 : decode cX6_centuries 235 = .ok (.ifCond .ne 8, 3) := by decide +kernel
theorem dX6_centuries_238 : decode cX6_centuries 238 = .ok (.iload 4, 2) := by decide +kernel
theorem dX6_centuries_240 : decode cX6_centuries 240 = .ok (.goto 17, 3) := by decide +kernel
theorem dX6_centuries_243 : decode cX6_centuries 243 = .ok (.iload_n 3, 1) := by decide +kernel
theorem dX6_centuries_244 : decode cX6_centuries 244 = .ok (.iconst 1, 1) := by decide +kernel
theorem dX6_centuries_245 : decode cX6_centuries 245 = .ok (.if_icmp .ne 8, 3) := by decide +kernel
theorem dX6_centuries_248 : decode cX6_centuries 248 = .ok (.iload 5, 2) := by decide +kernel
theorem dX6_centuries_250 : decode cX6_centuries 250 = .ok (.goto 7, 3) := by decide +kernel
theorem dX6_centuries_253 : decode cX6_centuries 253 = .ok (.aload_n 0, 1) := by decide +kernel
theorem dX6_centuries_254 : decode cX6_centuries 254 = .ok (.getfield 175, 3) := by decide +kernel
theorem dX6_centuries_257 : decode cX6_centuries 257 = .ok (.ireturn, 1) := by decide +kernel
set_option maxRecDepth 20000 in
theorem ggX6_image_X6_lacks : GoodIn wsX6_image wsX6_lacks := goodIn_r _ [17, 18, 22, 23, 24, 25, 26, 27, 28, 29, 30, 31, 32, 33, 34, 35, 36, 37, 38, 39, 40, 41, 42, 43] (by decide +kernel) (by decide +kernel)
set_option maxRecDepth 20000 in
theorem gX6_image_X6_lacks : GoodIn wsX6_image (wsV RX6 135 RX6 yX6_lacks wsX6_lacks) := goodIn_app (goodIn_of _ (by decide +kernel)) ggX6_image_X6_lacks
set_option maxRecDepth 20000 in
theorem ggX6_image_X6_copy : GoodIn wsX6_image wsX6_copy := goodIn_r _ [21] (by decide +kernel) (by decide +kernel)
set_option maxRecDepth 20000 in
theorem gX6_image_X6_copy : GoodIn wsX6_image (va_wsS RX6 161 yX6_copy wsX6_copy) := goodIn_app (goodIn_of _ (by decide +kernel)) ggX6_image_X6_copy
theorem dX6_image_0 : decode cX6_image 0 = .ok (.aload_n 0, 1) := by decide +kernel
theorem dX6_image_1 : decode cX6_image 1 = .ok (.invokevirtual 135, 3) := by decide +kernel
theorem dX6_image_4 : decode cX6_image 4 = .ok (.ifCond .eq 6, 3) := by decide +kernel
theorem dX6_image_7 : decode cX6_image 7 = .ok (.bipush (-103), 2) := by decide +kernel
theorem dX6_image_9 : decode cX6_image 9 = .ok (.ireturn, 1) := by decide +kernel
theorem dX6_image_10 : decode cX6_image 10 = .ok (.aload_n 0, 1) := by decide +kernel
theorem dX6_image_11 : decode cX6_image 11 = .ok (.getfield 13, 3) := by decide +kernel
theorem dX6_image_14 : decode cX6_image 14 = .ok (.aload_n 0, 1) := by decide +kernel
theorem dX6_image_15 : decode cX6_image 15 = .ok (.getfield 31, 3) := by decide +kernel
theorem dX6_image_18 : decode cX6_image 18 = .ok (.invokestatic 161, 3) := by decide +kernel
theorem dX6_image_21 : decode cX6_image 21 = .ok (.aload_n 0, 1) := by decide +kernel
theorem dX6_image_22 : decode cX6_image 22 = .ok (.getfield 16, 3) := by decide +kernel
theorem dX6_image_25 : decode cX6_image 25 = .ok (.aload_n 0, 1) := by decide +kernel
theorem dX6_image_26 : decode cX6_image 26 = .ok (.getfield 34, 3) := by decide +kernel
theorem dX6_image_29 : decode cX6_image 29 = .ok (.invokestatic 161, 3) := by decide +kernel
theorem dX6_image_32 : decode cX6_image 32 = .ok (.aload_n 0, 1) := by decide +kernel
theorem dX6_image_33 : decode cX6_image 33 = .ok (.getfield 25, 3) := by decide +kernel
theorem dX6_image_36 : decode cX6_image 36 = .ok (.aload_n 0, 1) := by decide +kernel
theorem dX6_image_37 : decode cX6_image 37 = .ok (.getfield 37, 3) := by decide +kernel
theorem dX6_image_40 : decode cX6_image 40 = .ok (.invokestatic 161, 3) := by decide +kernel
theorem dX6_image_43 : decode cX6_image 43 = .ok (.aload_n 0, 1) := by decide +kernel
theorem dX6_image_44 : decode cX6_image 44 = .ok (.aload_n 0, 1) := by decide +kernel
theorem dX6_image_45 : decode cX6_image 45 = .ok (.getfield 82, 3) := by decide +kernel
theorem dX6_image_48 : decode cX6_image 48 = .ok (.putfield 188, 3) := by decide +kernel
theorem dX6_image_51 : decode cX6_image 51 = .ok (.aload_n 0, 1) := by decide +kernel
theorem dX6_image_52 : decode cX6_image 52 = .ok (.aload_n 0, 1) := by decide +kernel
theorem dX6_image_53 : decode cX6_image 53 = .ok (.getfield 85, 3) := by decide +kernel
theorem dX6_image_56 : decode cX6_image 56 = .ok (.putfield 191, 3) := by decide +kernel
theorem dX6_image_59 : decode cX6_image 59 = .ok (.aload_n 0, 1) := by decide +kernel
theorem dX6_image_60 : decode cX6_image 60 = .ok (.aload_n 0, 1) := by decide +kernel
theorem dX6_image_61 : decode cX6_image 61 = .ok (.getfield 88, 3) := by decide +kernel
theorem dX6_image_64 : decode cX6_image 64 = .ok (.putfield 40, 3) := by decide +kernel
theorem dX6_image_67 : decode cX6_image 67 = .ok (.aload_n 0, 1) := by decide +kernel
theorem dX6_image_68 : decode cX6_image 68 = .ok (.getfield 82, 3) := by decide +kernel
theorem dX6_image_71 : decode cX6_image 71 = .ok (.ireturn, 1) := by decide +kernel
set_option maxRecDepth 20000 in
theorem ggX6_restore_X6_copy : GoodIn wsX6_restore wsX6_copy := goodIn_r _ [16] (by decide +kernel) (by decide +kernel)
set_option maxRecDepth 20000 in
theorem gX6_restore_X6_copy : GoodIn wsX6_restore (va_wsS RX6 161 yX6_copy wsX6_copy) := goodIn_app (goodIn_of _ (by decide +kernel)) ggX6_restore_X6_copy
theorem dX6_restore_0 : decode cX6_restore 0 = .ok (.aload_n 0, 1) := by decide +kernel
theorem dX6_restore_1 : decode cX6_restore 1 = .ok (.getfield 40, 3) := by decide +kernel
theorem dX6_restore_4 : decode cX6_restore 4 = .ok (.aload_n 0, 1) := by decide +kernel
theorem dX6_restore_5 : decode cX6_restore 5 = .ok (.getfield 88, 3) := by decide +kernel
theorem dX6_restore_8 : decode cX6_restore 8 = .ok (.if_icmp .eq 6, 3) := by decide +kernel
theorem dX6_restore_11 : decode cX6_restore 11 = .ok (.bipush (-103), 2) := by decide +kernel
theorem dX6_restore_13 : decode cX6_restore 13 = .ok (.ireturn, 1) := by decide +kernel
theorem dX6_restore_14 : decode cX6_restore 14 = .ok (.aload_n 0, 1) := by decide +kernel
theorem dX6_restore_15 : decode cX6_restore 15 = .ok (.getfield 31, 3) := by decide +kernel
theorem dX6_restore_18 : decode cX6_restore 18 = .ok (.aload_n 0, 1) := by decide +kernel
theorem dX6_restore_19 : decode cX6_restore 19 = .ok (.getfield 13, 3) := by decide +kernel
theorem dX6_restore_22 : decode cX6_restore 22 = .ok (.invokestatic 161, 3) := by decide +kernel
theorem dX6_restore_25 : decode cX6_restore 25 = .ok (.aload_n 0, 1) := by decide +kernel
theorem dX6_restore_26 : decode cX6_restore 26 = .ok (.getfield 34, 3) := by decide +kernel
theorem dX6_restore_29 : decode cX6_restore 29 = .ok (.aload_n 0, 1) := by decide +kernel
theorem dX6_restore_30 : decode cX6_restore 30 = .ok (.getfield 16, 3) := by decide +kernel
theorem dX6_restore_33 : decode cX6_restore 33 = .ok (.invokestatic 161, 3) := by decide +kernel
theorem dX6_restore_36 : decode cX6_restore 36 = .ok (.aload_n 0, 1) := by decide +kernel
theorem dX6_restore_37 : decode cX6_restore 37 = .ok (.getfield 37, 3) := by decide +kernel
theorem dX6_restore_40 : decode cX6_restore 40 = .ok (.aload_n 0, 1) := by decide +kernel
theorem dX6_restore_41 : decode cX6_restore 41 = .ok (.getfield 25, 3) := by decide +kernel
theorem dX6_restore_44 : decode cX6_restore 44 = .ok (.invokestatic 161, 3) := by decide +kernel
theorem dX6_restore_47 : decode cX6_restore 47 = .ok (.aload_n 0, 1) := by decide +kernel
theorem dX6_restore_48 : decode cX6_restore 48 = .ok (.aload_n 0, 1) := by decide +kernel
theorem dX6_restore_49 : decode cX6_restore 49 = .ok (.getfield 188, 3) := by decide +kernel
theorem dX6_restore_52 : decode cX6_restore 52 = .ok (.putfield 82, 3) := by decide +kernel
theorem dX6_restore_55 : decode cX6_restore 55 = .ok (.aload_n 0, 1) := by decide +kernel
theorem dX6_restore_56 : decode cX6_restore 56 = .ok (.aload_n 0, 1) := by decide +kernel
theorem dX6_restore_57 : decode cX6_restore 57 = .ok (.getfield 191, 3) := by decide +kernel
theorem dX6_restore_60 : decode cX6_restore 60 = .ok (.putfield 85, 3) := by decide +kernel
theorem dX6_restore_63 : decode cX6_restore 63 = .ok (.aload_n 0, 1) := by decide +kernel
theorem dX6_restore_64 : decode cX6_restore 64 = .ok (.getfield 82, 3) := by decide +kernel
theorem dX6_restore_67 : decode cX6_restore 67 = .ok (.ireturn, 1) := by decide +kernel
theorem dX6_birds_0 : decode cX6_birds 0 = .ok (.iconst 0, 1) := by decide +kernel
theorem dX6_birds_1 : decode cX6_birds 1 = .ok (.istore_n 2, 1) := by decide +kernel
theorem dX6_birds_2 : decode cX6_birds 2 = .ok (.iconst 0, 1) := by decide +kernel
theorem dX6_birds_3 : decode cX6_birds 3 = .ok (.istore_n 3, 1) := by decide +kernel
theorem dX6_birds_4 : decode cX6_birds 4 = .ok (.iload_n 3, 1) := by decide +kernel
theorem dX6_birds_5 : decode cX6_birds 5 = .ok (.aload_n 0, 1) := by decide +kernel
theorem dX6_birds_6 : decode cX6_birds 6 = .ok (.getfield 75, 3) := by decide +kernel
theorem dX6_birds_9 : decode cX6_birds 9 = .ok (.if_icmp .ge 31, 3) := by decide +kernel
theorem dX6_birds_12 : decode cX6_birds 12 = .ok (.iload_n 2, 1) := by decide +kernel
theorem dX6_birds_13 : decode cX6_birds 13 = .ok (.aload_n 0, 1) := by decide +kernel
theorem dX6_birds_14 : decode cX6_birds 14 = .ok (.getfield 16, 3) := by decide +kernel
theorem dX6_birds_17 : decode cX6_birds 17 = .ok (.iconst 4, 1) := by decide +kernel
theorem dX6_birds_18 : decode cX6_birds 18 = .ok (.iload_n 3, 1) := by decide +kernel
theorem dX6_birds_19 : decode cX6_birds 19 = .ok (.imul, 1) := by decide +kernel
theorem dX6_birds_20 : decode cX6_birds 20 = .ok (.iconst 2, 1) := by decide +kernel
theorem dX6_birds_21 : decode cX6_birds 21 = .ok (.iadd, 1) := by decide +kernel
theorem dX6_birds_22 : decode cX6_birds 22 = .ok (.iaload, 1) := by decide +kernel
theorem dX6_birds_23 : decode cX6_birds 23 = .ok (.iload_n 1, 1) := by decide +kernel
theorem dX6_birds_24 : decode cX6_birds 24 = .ok (.if_icmp .ne 7, 3) := by decide +kernel
theorem dX6_birds_27 : decode cX6_birds 27 = .ok (.iconst 1, 1) := by decide +kernel
theorem dX6_birds_28 : decode cX6_birds 28 = .ok (.goto 4, 3) := by decide +kernel
theorem dX6_birds_31 : decode cX6_birds 31 = .ok (.iconst 0, 1) := by decide +kernel
theorem dX6_birds_32 : decode cX6_birds 32 = .ok (.iadd, 1) := by decide +kernel
theorem dX6_birds_33 : decode cX6_birds 33 = .ok (.istore_n 2, 1) := by decide +kernel
theorem dX6_birds_34 : decode cX6_birds 34 = .ok (.iinc 3 1, 3) := by decide +kernel
theorem dX6_birds_37 : decode cX6_birds 37 = .ok (.goto (-33), 3) := by decide +kernel
theorem dX6_birds_40 : decode cX6_birds 40 = .ok (.iload_n 2, 1) := by decide +kernel
theorem dX6_birds_41 : decode cX6_birds 41 = .ok (.ireturn, 1) := by decide +kernel
theorem dX6_brokenAll_0 : decode cX6_brokenAll 0 = .ok (.iconst 0, 1) := by decide +kernel
theorem dX6_brokenAll_1 : decode cX6_brokenAll 1 = .ok (.istore_n 1, 1) := by decide +kernel
theorem dX6_brokenAll_2 : decode cX6_brokenAll 2 = .ok (.iconst 0, 1) := by decide +kernel
theorem dX6_brokenAll_3 : decode cX6_brokenAll 3 = .ok (.istore_n 2, 1) := by decide +kernel
theorem dX6_brokenAll_4 : decode cX6_brokenAll 4 = .ok (.iload_n 2, 1) := by decide +kernel
theorem dX6_brokenAll_5 : decode cX6_brokenAll 5 = .ok (.aload_n 0, 1) := by decide +kernel
theorem dX6_brokenAll_6 : decode cX6_brokenAll 6 = .ok (.getfield 72, 3) := by decide +kernel
theorem dX6_brokenAll_9 : decode cX6_brokenAll 9 = .ok (.if_icmp .ge 22, 3) := by decide +kernel
theorem dX6_brokenAll_12 : decode cX6_brokenAll 12 = .ok (.iload_n 1, 1) := by decide +kernel
theorem dX6_brokenAll_13 : decode cX6_brokenAll 13 = .ok (.aload_n 0, 1) := by decide +kernel
theorem dX6_brokenAll_14 : decode cX6_brokenAll 14 = .ok (.getfield 13, 3) := by decide +kernel
theorem dX6_brokenAll_17 : decode cX6_brokenAll 17 = .ok (.iconst 3, 1) := by decide +kernel
theorem dX6_brokenAll_18 : decode cX6_brokenAll 18 = .ok (.iload_n 2, 1) := by decide +kernel
theorem dX6_brokenAll_19 : decode cX6_brokenAll 19 = .ok (.imul, 1) := by decide +kernel
theorem dX6_brokenAll_20 : decode cX6_brokenAll 20 = .ok (.iconst 2, 1) := by decide +kernel
theorem dX6_brokenAll_21 : decode cX6_brokenAll 21 = .ok (.iadd, 1) := by decide +kernel
theorem dX6_brokenAll_22 : decode cX6_brokenAll 22 = .ok (.iaload, 1) := by decide +kernel
theorem dX6_brokenAll_23 : decode cX6_brokenAll 23 = .ok (.iadd, 1) := by decide +kernel
theorem dX6_brokenAll_24 : decode cX6_brokenAll 24 = .ok (.istore_n 1, 1) := by decide +kernel
theorem dX6_brokenAll_25 : decode cX6_brokenAll 25 = .ok (.iinc 2 1, 3) := by decide +kernel
theorem dX6_brokenAll_28 : decode cX6_brokenAll 28 = .ok (.goto (-24), 3) := by decide +kernel
theorem dX6_brokenAll_31 : decode cX6_brokenAll 31 = .ok (.iload_n 1, 1) := by decide +kernel
theorem dX6_brokenAll_32 : decode cX6_brokenAll 32 = .ok (.ireturn, 1) := by decide +kernel
set_option maxRecDepth 20000 in
theorem ggX6_countOf_X6_birds : GoodIn wsX6_countOf wsX6_birds := goodIn_r _ [11, 2, 12, 22, 23, 24, 25, 26, 27, 28, 29, 30, 31, 32, 33, 34, 35, 36, 37, 38, 39, 40, 41, 42, 43] (by decide +kernel) (by decide +kernel)
set_option maxRecDepth 20000 in
theorem gX6_countOf_X6_birds : GoodIn wsX6_countOf (wsV RX6 194 RX6 yX6_birds wsX6_birds) := goodIn_app (goodIn_of _ (by decide +kernel)) ggX6_countOf_X6_birds
set_option maxRecDepth 20000 in
theorem ggX6_countOf_X6_eggsIn : GoodIn wsX6_countOf wsX6_eggsIn := goodIn_r _ [16, 2, 12, 22, 23, 24, 25, 26, 27, 28, 29, 30, 31, 32, 33, 34, 35, 36, 37, 38, 39, 40, 41, 42, 43] (by decide +kernel) (by decide +kernel)
set_option maxRecDepth 20000 in
theorem gX6_countOf_X6_eggsIn : GoodIn wsX6_countOf (wsV RX6 98 RX6 yX6_eggsIn wsX6_eggsIn) := goodIn_app (goodIn_of _ (by decide +kernel)) ggX6_countOf_X6_eggsIn
set_option maxRecDepth 20000 in
theorem ggX6_countOf_X6_brokenAll : GoodIn wsX6_countOf wsX6_brokenAll := goodIn_r _ [20, 1, 21, 22, 23, 24, 25, 26, 27, 28, 29, 30, 31, 32, 33, 34, 35, 36, 37, 38, 39, 40, 41, 42, 43] (by decide +kernel) (by decide +kernel)
set_option maxRecDepth 20000 in
theorem gX6_countOf_X6_brokenAll : GoodIn wsX6_countOf (wsV RX6 197 RX6 yX6_brokenAll wsX6_brokenAll) := goodIn_app (goodIn_of _ (by decide +kernel)) ggX6_countOf_X6_brokenAll
theorem dX6_countOf_0 : decode cX6_countOf 0 = .ok (.iload_n 1, 1) := by decide +kernel
theorem dX6_countOf_1 : decode cX6_countOf 1 = .ok (.tableswitch 109 0 9 #[55, 60, 65, 71, 77, 84, 89, 94, 99, 104], 55) := by decide +kernel
theorem dX6_countOf_56 : decode cX6_countOf 56 = .ok (.aload_n 0, 1) := by decide +kernel
theorem dX6_countOf_57 : decode cX6_countOf 57 = .ok (.getfield 72, 3) := by decide +kernel
theorem dX6_countOf_60 : decode cX6_countOf 60 = .ok (.ireturn, 1) := by decide +kernel
theorem dX6_countOf_61 : decode cX6_countOf 61 = .ok (.aload_n 0, 1) := by decide +kernel
theorem dX6_countOf_62 : decode cX6_countOf 62 = .ok (.getfield 75, 3) := by decide +kernel
theorem dX6_countOf_65 : decode cX6_countOf 65 = .ok (.ireturn, 1) := by decide +kernel
theorem dX6_countOf_66 : decode cX6_countOf 66 = .ok (.aload_n 0, 1) := by decide +kernel
theorem dX6_countOf_67 : decode cX6_countOf 67 = .ok (.iconst 1, 1) := by decide +kernel
theorem dX6_countOf_68 : decode cX6_countOf 68 = .ok (.invokevirtual 194, 3) := by decide +kernel
theorem dX6_countOf_71 : decode cX6_countOf 71 = .ok (.ireturn, 1) := by decide +kernel
theorem dX6_countOf_72 : decode cX6_countOf 72 = .ok (.aload_n 0, 1) := by decide +kernel
theorem dX6_countOf_73 : decode cX6_countOf 73 = .ok (.iconst 2, 1) := by decide +kernel
theorem dX6_countOf_74 : decode cX6_countOf 74 = .ok (.invokevirtual 194, 3) := by decide +kernel
theorem dX6_countOf_77 : decode cX6_countOf 77 = .ok (.ireturn, 1) := by decide +kernel
theorem dX6_countOf_78 : decode cX6_countOf 78 = .ok (.aload_n 0, 1) := by decide +kernel
theorem dX6_countOf_79 : decode cX6_countOf 79 = .ok (.bipush 31, 2) := by decide +kernel
theorem dX6_countOf_81 : decode cX6_countOf 81 = .ok (.invokevirtual 98, 3) := by decide +kernel
theorem dX6_countOf_84 : decode cX6_countOf 84 = .ok (.ireturn, 1) := by decide +kernel
theorem dX6_countOf_85 : decode cX6_countOf 85 = .ok (.aload_n 0, 1) := by decide +kernel
theorem dX6_countOf_86 : decode cX6_countOf 86 = .ok (.invokevirtual 197, 3) := by decide +kernel
theorem dX6_countOf_89 : decode cX6_countOf 89 = .ok (.ireturn, 1) := by decide +kernel
theorem dX6_countOf_90 : decode cX6_countOf 90 = .ok (.aload_n 0, 1) := by decide +kernel
theorem dX6_countOf_91 : decode cX6_countOf 91 = .ok (.getfield 82, 3) := by decide +kernel
theorem dX6_countOf_94 : decode cX6_countOf 94 = .ok (.ireturn, 1) := by decide +kernel
theorem dX6_countOf_95 : decode cX6_countOf 95 = .ok (.aload_n 0, 1) := by decide +kernel
theorem dX6_countOf_96 : decode cX6_countOf 96 = .ok (.getfield 85, 3) := by decide +kernel
theorem dX6_countOf_99 : decode cX6_countOf 99 = .ok (.ireturn, 1) := by decide +kernel
theorem dX6_countOf_100 : decode cX6_countOf 100 = .ok (.aload_n 0, 1) := by decide +kernel
theorem dX6_countOf_101 : decode cX6_countOf 101 = .ok (.getfield 50, 3) := by decide +kernel
theorem dX6_countOf_104 : decode cX6_countOf 104 = .ok (.ireturn, 1) := by decide +kernel
theorem dX6_countOf_105 : decode cX6_countOf 105 = .ok (.aload_n 0, 1) := by decide +kernel
theorem dX6_countOf_106 : decode cX6_countOf 106 = .ok (.getfield 88, 3) := by decide +kernel
theorem dX6_countOf_109 : decode cX6_countOf 109 = .ok (.ireturn, 1) := by decide +kernel
theorem dX6_countOf_110 : decode cX6_countOf 110 = .ok (.bipush (-102), 2) := by decide +kernel
theorem dX6_countOf_112 : decode cX6_countOf 112 = .ok (.ireturn, 1) := by decide +kernel
set_option maxRecDepth 20000 in
theorem ggX6_count_X6_countOf : GoodIn wsX6_count wsX6_countOf := goodIn_r _ [5, 6, 7, 8, 9, 10, 11, 12, 13, 14, 4, 15, 16, 17, 18, 19, 20, 21, 22, 23, 24, 25, 26, 27, 28, 29, 30, 31, 32, 33, 34, 35, 36, 37, 38, 39, 40, 41, 42, 43, 44, 45, 46, 47] (by decide +kernel) (by decide +kernel)
set_option maxRecDepth 20000 in
theorem gX6_count_X6_countOf : GoodIn wsX6_count (wsV RX6 200 RX6 yX6_countOf wsX6_countOf) := goodIn_app (goodIn_of _ (by decide +kernel)) ggX6_count_X6_countOf
theorem dX6_count_0 : decode cX6_count 0 = .ok (.aload_n 0, 1) := by decide +kernel
theorem dX6_count_1 : decode cX6_count 1 = .ok (.iload_n 1, 1) := by decide +kernel
theorem dX6_count_2 : decode cX6_count 2 = .ok (.invokevirtual 200, 3) := by decide +kernel
theorem dX6_count_5 : decode cX6_count 5 = .ok (.ireturn, 1) := by decide +kernel
theorem dX6_say_0 : decode cX6_say 0 = .ok (.aload_n 0, 1) := by decide +kernel
theorem dX6_say_1 : decode cX6_say 1 = .ok (.ldc2_w 203, 3) := by decide +kernel
theorem dX6_say_4 : decode cX6_say 4 = .ok (.aload_n 0, 1) := by decide +kernel
theorem dX6_say_5 : decode cX6_say 5 = .ok (.getfield 205, 3) := by decide +kernel
theorem dX6_say_8 : decode cX6_say 8 = .ok (.lmul, 1) := by decide +kernel
theorem dX6_say_9 : decode cX6_say 9 = .ok (.lload_n 1, 1) := by decide +kernel
theorem dX6_say_10 : decode cX6_say 10 = .ok (.ladd, 1) := by decide +kernel
theorem dX6_say_11 : decode cX6_say 11 = .ok (.putfield 205, 3) := by decide +kernel
theorem dX6_say_14 : decode cX6_say 14 = .ok (.return_, 1) := by decide +kernel
set_option maxRecDepth 20000 in
theorem ggX6_sayKeeper_X6_tellKeeper : GoodIn wsX6_sayKeeper wsX6_tellKeeper := goodIn_r _ [5, 6, 7, 8, 9, 4, 10, 11, 12, 13, 14, 15, 16, 17, 18, 19, 20, 21, 22, 23, 24, 25, 26, 27, 28, 29, 30, 31, 32, 33, 44, 45, 46, 47, 48, 49, 50, 51, 52, 53, 54, 55, 56, 57, 58, 59, 60, 61, 62, 63, 64, 65] (by decide +kernel) (by decide +kernel)
set_option maxRecDepth 20000 in
theorem gX6_sayKeeper_X6_tellKeeper : GoodIn wsX6_sayKeeper (wsV RX6 110 RX6 yX6_tellKeeper wsX6_tellKeeper) := goodIn_app (goodIn_of _ (by decide +kernel)) ggX6_sayKeeper_X6_tellKeeper
set_option maxRecDepth 20000 in
theorem ggX6_sayKeeper_X6_say : GoodIn wsX6_sayKeeper wsX6_say := goodIn_r _ [37, 38, 39, 44, 45, 46, 47, 48, 49, 50, 51, 52, 53, 54, 55, 56, 57, 58, 59, 60, 61, 62, 63, 64, 65] (by decide +kernel) (by decide +kernel)
set_option maxRecDepth 20000 in
theorem gX6_sayKeeper_X6_say : GoodIn wsX6_sayKeeper (wsV RX6 209 RX6 yX6_say wsX6_say) := goodIn_app (goodIn_of _ (by decide +kernel)) ggX6_sayKeeper_X6_say
set_option maxRecDepth 20000 in
theorem ggX6_sayKeeper_X6_tenthsOf : GoodIn wsX6_sayKeeper wsX6_tenthsOf := goodIn_r _ [43, 6, 27, 28, 4, 29, 44, 45, 46, 47, 48, 49, 50, 51, 52, 53, 54, 55, 56, 57, 58, 59, 60, 61, 62, 63, 64, 65] (by decide +kernel) (by decide +kernel)
set_option maxRecDepth 20000 in
theorem gX6_sayKeeper_X6_tenthsOf : GoodIn wsX6_sayKeeper (wsV RX6 118 RX6 yX6_tenthsOf wsX6_tenthsOf) := goodIn_app (goodIn_of _ (by decide +kernel)) ggX6_sayKeeper_X6_tenthsOf
theorem dX6_sayKeeper_0 : decode cX6_sayKeeper 0 = .ok (.iconst 0, 1) := by decide +kernel
theorem dX6_sayKeeper_1 : decode cX6_sayKeeper 1 = .ok (.istore_n 2, 1) := by decide +kernel
theorem dX6_sayKeeper_2 : decode cX6_sayKeeper 2 = .ok (.iload_n 2, 1) := by decide +kernel
theorem dX6_sayKeeper_3 : decode cX6_sayKeeper 3 = .ok (.bipush 7, 2) := by decide +kernel
theorem dX6_sayKeeper_5 : decode cX6_sayKeeper 5 = .ok (.if_icmp .ge 20, 3) := by decide +kernel
theorem dX6_sayKeeper_8 : decode cX6_sayKeeper 8 = .ok (.aload_n 0, 1) := by decide +kernel
theorem dX6_sayKeeper_9 : decode cX6_sayKeeper 9 = .ok (.aload_n 0, 1) := by decide +kernel
theorem dX6_sayKeeper_10 : decode cX6_sayKeeper 10 = .ok (.iload_n 1, 1) := by decide +kernel
theorem dX6_sayKeeper_11 : decode cX6_sayKeeper 11 = .ok (.iload_n 2, 1) := by decide +kernel
theorem dX6_sayKeeper_12 : decode cX6_sayKeeper 12 = .ok (.invokevirtual 110, 3) := by decide +kernel
theorem dX6_sayKeeper_15 : decode cX6_sayKeeper 15 = .ok (.i2l, 1) := by decide +kernel
theorem dX6_sayKeeper_16 : decode cX6_sayKeeper 16 = .ok (.invokevirtual 209, 3) := by decide +kernel
theorem dX6_sayKeeper_19 : decode cX6_sayKeeper 19 = .ok (.iinc 2 1, 3) := by decide +kernel
theorem dX6_sayKeeper_22 : decode cX6_sayKeeper 22 = .ok (.goto (-20), 3) := by decide +kernel
theorem dX6_sayKeeper_25 : decode cX6_sayKeeper 25 = .ok (.aload_n 0, 1) := by decide +kernel
theorem dX6_sayKeeper_26 : decode cX6_sayKeeper 26 = .ok (.aload_n 0, 1) := by decide +kernel
theorem dX6_sayKeeper_27 : decode cX6_sayKeeper 27 = .ok (.iload_n 1, 1) := by decide +kernel
theorem dX6_sayKeeper_28 : decode cX6_sayKeeper 28 = .ok (.iconst 0, 1) := by decide +kernel
theorem dX6_sayKeeper_29 : decode cX6_sayKeeper 29 = .ok (.invokevirtual 118, 3) := by decide +kernel
theorem dX6_sayKeeper_32 : decode cX6_sayKeeper 32 = .ok (.i2l, 1) := by decide +kernel
theorem dX6_sayKeeper_33 : decode cX6_sayKeeper 33 = .ok (.invokevirtual 209, 3) := by decide +kernel
theorem dX6_sayKeeper_36 : decode cX6_sayKeeper 36 = .ok (.aload_n 0, 1) := by decide +kernel
theorem dX6_sayKeeper_37 : decode cX6_sayKeeper 37 = .ok (.aload_n 0, 1) := by decide +kernel
theorem dX6_sayKeeper_38 : decode cX6_sayKeeper 38 = .ok (.iload_n 1, 1) := by decide +kernel
theorem dX6_sayKeeper_39 : decode cX6_sayKeeper 39 = .ok (.iconst 5, 1) := by decide +kernel
theorem dX6_sayKeeper_40 : decode cX6_sayKeeper 40 = .ok (.invokevirtual 118, 3) := by decide +kernel
theorem dX6_sayKeeper_43 : decode cX6_sayKeeper 43 = .ok (.i2l, 1) := by decide +kernel
theorem dX6_sayKeeper_44 : decode cX6_sayKeeper 44 = .ok (.invokevirtual 209, 3) := by decide +kernel
theorem dX6_sayKeeper_47 : decode cX6_sayKeeper 47 = .ok (.aload_n 0, 1) := by decide +kernel
theorem dX6_sayKeeper_48 : decode cX6_sayKeeper 48 = .ok (.aload_n 0, 1) := by decide +kernel
theorem dX6_sayKeeper_49 : decode cX6_sayKeeper 49 = .ok (.iload_n 1, 1) := by decide +kernel
theorem dX6_sayKeeper_50 : decode cX6_sayKeeper 50 = .ok (.bipush 9, 2) := by decide +kernel
theorem dX6_sayKeeper_52 : decode cX6_sayKeeper 52 = .ok (.invokevirtual 118, 3) := by decide +kernel
theorem dX6_sayKeeper_55 : decode cX6_sayKeeper 55 = .ok (.i2l, 1) := by decide +kernel
theorem dX6_sayKeeper_56 : decode cX6_sayKeeper 56 = .ok (.invokevirtual 209, 3) := by decide +kernel
theorem dX6_sayKeeper_59 : decode cX6_sayKeeper 59 = .ok (.return_, 1) := by decide +kernel
set_option maxRecDepth 20000 in
theorem ggX6_digest_X6_sayKeeper : GoodIn wsX6_digest wsX6_sayKeeper := goodIn_r _ [11, 12, 13, 14, 10, 15, 16, 17, 18, 19, 20, 4, 21, 22, 23, 24, 25, 26, 27, 28, 29, 30, 31, 32, 33, 34, 35, 36, 37, 38, 39, 40, 41, 42, 43, 44, 45, 46, 47, 2, 48, 49, 50, 51, 106, 107, 108, 109, 110, 111, 112, 113, 114, 115, 116, 117, 118, 119, 120, 121, 122, 123, 124, 125, 126, 127] (by decide +kernel) (by decide +kernel)
set_option maxRecDepth 20000 in
theorem gX6_digest_X6_sayKeeper : GoodIn wsX6_digest (wsV RX6 215 RX6 yX6_sayKeeper wsX6_sayKeeper) := goodIn_app (goodIn_of _ (by decide +kernel)) ggX6_digest_X6_sayKeeper
set_option maxRecDepth 20000 in
theorem ggX6_digest_X6_tellHole : GoodIn wsX6_digest wsX6_tellHole := goodIn_r _ [55, 56, 21, 57, 58, 10, 59, 60, 61, 62, 63, 48, 49, 50, 51, 16, 36, 37, 38, 106, 107, 108, 109, 110, 111, 112, 113, 114, 115, 116, 117, 118, 119, 120, 121, 122, 123, 124, 125, 126, 127] (by decide +kernel) (by decide +kernel)
set_option maxRecDepth 20000 in
theorem gX6_digest_X6_tellHole : GoodIn wsX6_digest (wsV RX6 129 RX6 yX6_tellHole wsX6_tellHole) := goodIn_app (goodIn_of _ (by decide +kernel)) ggX6_digest_X6_tellHole
set_option maxRecDepth 20000 in
theorem ggX6_digest_X6_say : GoodIn wsX6_digest wsX6_say := goodIn_r _ [46, 47, 2, 106, 107, 108, 109, 110, 111, 112, 113, 114, 115, 116, 117, 118, 119, 120, 121, 122, 123, 124, 125, 126, 127] (by decide +kernel) (by decide +kernel)
set_option maxRecDepth 20000 in
theorem gX6_digest_X6_say : GoodIn wsX6_digest (wsV RX6 209 RX6 yX6_say wsX6_say) := goodIn_app (goodIn_of _ (by decide +kernel)) ggX6_digest_X6_say
set_option maxRecDepth 20000 in
theorem ggX6_digest_X6_lacks : GoodIn wsX6_digest wsX6_lacks := goodIn_r _ [67, 4, 106, 107, 108, 109, 110, 111, 112, 113, 114, 115, 116, 117, 118, 119, 120, 121, 122, 123, 124, 125, 126, 127] (by decide +kernel) (by decide +kernel)
set_option maxRecDepth 20000 in
theorem gX6_digest_X6_lacks : GoodIn wsX6_digest (wsV RX6 135 RX6 yX6_lacks wsX6_lacks) := goodIn_app (goodIn_of _ (by decide +kernel)) ggX6_digest_X6_lacks
set_option maxRecDepth 20000 in
theorem ggX6_digest_X6_oddsOf : GoodIn wsX6_digest wsX6_oddsOf := goodIn_r _ [71, 4, 21, 72, 60, 61, 62, 10, 63, 48, 49, 50, 51, 16, 36, 37, 38, 73, 74, 75, 106, 107, 108, 109, 110, 111, 112, 113, 114, 115, 116, 117, 118, 119, 120, 121, 122, 123, 124, 125, 126, 127] (by decide +kernel) (by decide +kernel)
set_option maxRecDepth 20000 in
theorem gX6_digest_X6_oddsOf : GoodIn wsX6_digest (wsV RX6 154 RX6 yX6_oddsOf wsX6_oddsOf) := goodIn_app (goodIn_of _ (by decide +kernel)) ggX6_digest_X6_oddsOf
set_option maxRecDepth 20000 in
theorem ggX6_digest_X6_matchOf : GoodIn wsX6_digest wsX6_matchOf := goodIn_r _ [79, 4, 3, 80, 81, 82, 83, 84, 10, 85, 21, 48, 49, 50, 51, 16, 36, 37, 38, 17, 18, 19, 20, 86, 87, 88, 89, 90, 91, 106, 107, 108, 109, 110, 111, 112, 113, 114, 115, 116, 117, 118, 119, 120, 121, 122, 123, 124, 125, 126, 127] (by decide +kernel) (by decide +kernel)
set_option maxRecDepth 20000 in
theorem gX6_digest_X6_matchOf : GoodIn wsX6_digest (wsV RX6 167 RX6 yX6_matchOf wsX6_matchOf) := goodIn_app (goodIn_of _ (by decide +kernel)) ggX6_digest_X6_matchOf
set_option maxRecDepth 20000 in
theorem ggX6_digest_X6_countOf : GoodIn wsX6_digest wsX6_countOf := goodIn_r _ [95, 3, 4, 96, 34, 5, 97, 98, 99, 100, 10, 101, 21, 22, 23, 24, 25, 102, 103, 104, 105, 16, 106, 107, 108, 109, 110, 111, 112, 113, 114, 115, 116, 117, 118, 119, 120, 121, 122, 123, 124, 125, 126, 127] (by decide +kernel) (by decide +kernel)
set_option maxRecDepth 20000 in
theorem gX6_digest_X6_countOf : GoodIn wsX6_digest (wsV RX6 200 RX6 yX6_countOf wsX6_countOf) := goodIn_app (goodIn_of _ (by decide +kernel)) ggX6_digest_X6_countOf
theorem dX6_digest_0 : decode cX6_digest 0 = .ok (.aload_n 0, 1) := by decide +kernel
theorem dX6_digest_1 : decode cX6_digest 1 = .ok (.ldc2_w 213, 3) := by decide +kernel
theorem dX6_digest_4 : decode cX6_digest 4 = .ok (.putfield 205, 3) := by decide +kernel
theorem dX6_digest_7 : decode cX6_digest 7 = .ok (.iconst 0, 1) := by decide +kernel
theorem dX6_digest_8 : decode cX6_digest 8 = .ok (.istore_n 1, 1) := by decide +kernel
theorem dX6_digest_9 : decode cX6_digest 9 = .ok (.iload_n 1, 1) := by decide +kernel
theorem dX6_digest_10 : decode cX6_digest 10 = .ok (.aload_n 0, 1) := by decide +kernel
theorem dX6_digest_11 : decode cX6_digest 11 = .ok (.getfield 72, 3) := by decide +kernel
theorem dX6_digest_14 : decode cX6_digest 14 = .ok (.if_icmp .ge 14, 3) := by decide +kernel
theorem dX6_digest_17 : decode cX6_digest 17 = .ok (.aload_n 0, 1) := by decide +kernel
theorem dX6_digest_18 : decode cX6_digest 18 = .ok (.iload_n 1, 1) := by decide +kernel
theorem dX6_digest_19 : decode cX6_digest 19 = .ok (.invokevirtual 215, 3) := by decide +kernel
theorem dX6_digest_22 : decode cX6_digest 22 = .ok (.iinc 1 1, 3) := by decide +kernel
theorem dX6_digest_25 : decode cX6_digest 25 = .ok (.goto (-16), 3) := by decide +kernel
theorem dX6_digest_28 : decode cX6_digest 28 = .ok (.iconst 0, 1) := by decide +kernel
theorem dX6_digest_29 : decode cX6_digest 29 = .ok (.istore_n 1, 1) := by decide +kernel
theorem dX6_digest_30 : decode cX6_digest 30 = .ok (.iload_n 1, 1) := by decide +kernel
theorem dX6_digest_31 : decode cX6_digest 31 = .ok (.aload_n 0, 1) := by decide +kernel
theorem dX6_digest_32 : decode cX6_digest 32 = .ok (.getfield 75, 3) := by decide +kernel
theorem dX6_digest_35 : decode cX6_digest 35 = .ok (.if_icmp .ge 33, 3) := by decide +kernel
theorem dX6_digest_38 : decode cX6_digest 38 = .ok (.iconst 0, 1) := by decide +kernel
theorem dX6_digest_39 : decode cX6_digest 39 = .ok (.istore_n 2, 1) := by decide +kernel
theorem dX6_digest_40 : decode cX6_digest 40 = .ok (.iload_n 2, 1) := by decide +kernel
theorem dX6_digest_41 : decode cX6_digest 41 = .ok (.iconst 5, 1) := by decide +kernel
theorem dX6_digest_42 : decode cX6_digest 42 = .ok (.if_icmp .ge 20, 3) := by decide +kernel
theorem dX6_digest_45 : decode cX6_digest 45 = .ok (.aload_n 0, 1) := by decide +kernel
theorem dX6_digest_46 : decode cX6_digest 46 = .ok (.aload_n 0, 1) := by decide +kernel
theorem dX6_digest_47 : decode cX6_digest 47 = .ok (.iload_n 1, 1) := by decide +kernel
theorem dX6_digest_48 : decode cX6_digest 48 = .ok (.iload_n 2, 1) := by decide +kernel
theorem dX6_digest_49 : decode cX6_digest 49 = .ok (.invokevirtual 129, 3) := by decide +kernel
theorem dX6_digest_52 : decode cX6_digest 52 = .ok (.i2l, 1) := by decide +kernel
theorem dX6_digest_53 : decode cX6_digest 53 = .ok (.invokevirtual 209, 3) := by decide +kernel
theorem dX6_digest_56 : decode cX6_digest 56 = .ok (.iinc 2 1, 3) := by decide +kernel
theorem dX6_digest_59 : decode cX6_digest 59 = .ok (.goto (-19), 3) := by decide +kernel
theorem dX6_digest_62 : decode cX6_digest 62 = .ok (.iinc 1 1, 3) := by decide +kernel
theorem dX6_digest_65 : decode cX6_digest 65 = .ok (.goto (-35), 3) := by decide +kernel
theorem dX6_digest_68 : decode cX6_digest 68 = .ok (.aload_n 0, 1) := by decide +kernel
theorem dX6_digest_69 : decode cX6_digest 69 = .ok (.invokevirtual 135, 3) := by decide +kernel
theorem dX6_digest_72 : decode cX6_digest 72 = .ok (.ifCond .ne 58, 3) := by decide +kernel
theorem dX6_digest_75 : decode cX6_digest 75 = .ok (.aload_n 0, 1) := by decide +kernel
theorem dX6_digest_76 : decode cX6_digest 76 = .ok (.aload_n 0, 1) := by decide +kernel
theorem dX6_digest_77 : decode cX6_digest 77 = .ok (.iconst 2, 1) := by decide +kernel
theorem dX6_digest_78 : decode cX6_digest 78 = .ok (.iconst 0, 1) := by decide +kernel
theorem dX6_digest_79 : decode cX6_digest 79 = .ok (.invokevirtual 154, 3) := by decide +kernel
theorem dX6_digest_82 : decode cX6_digest 82 = .ok (.invokevirtual 209, 3) := by decide +kernel
theorem dX6_digest_85 : decode cX6_digest 85 = .ok (.aload_n 0, 1) := by decide +kernel
theorem dX6_digest_86 : decode cX6_digest 86 = .ok (.aload_n 0, 1) := by decide +kernel
theorem dX6_digest_87 : decode cX6_digest 87 = .ok (.iconst 2, 1) := by decide +kernel
theorem dX6_digest_88 : decode cX6_digest 88 = .ok (.iconst 1, 1) := by decide +kernel
theorem dX6_digest_89 : decode cX6_digest 89 = .ok (.invokevirtual 154, 3) := by decide +kernel
theorem dX6_digest_92 : decode cX6_digest 92 = .ok (.invokevirtual 209, 3) := by decide +kernel
theorem dX6_digest_95 : decode cX6_digest 95 = .ok (.aload_n 0, 1) := by decide +kernel
theorem dX6_digest_96 : decode cX6_digest 96 = .ok (.aload_n 0, 1) := by decide +kernel
theorem dX6_digest_97 : decode cX6_digest 97 = .ok (.iconst 0, 1) := by decide +kernel
theorem dX6_digest_98 : decode cX6_digest 98 = .ok (.invokevirtual 167, 3) := by decide +kernel
theorem dX6_digest_101 : decode cX6_digest 101 = .ok (.i2l, 1) := by decide +kernel
theorem dX6_digest_102 : decode cX6_digest 102 = .ok (.invokevirtual 209, 3) := by decide +kernel
theorem dX6_digest_105 : decode cX6_digest 105 = .ok (.bipush 10, 2) := by decide +kernel
theorem dX6_digest_107 : decode cX6_digest 107 = .ok (.istore_n 1, 1) := by decide +kernel
theorem dX6_digest_108 : decode cX6_digest 108 = .ok (.iload_n 1, 1) := by decide +kernel
theorem dX6_digest_109 : decode cX6_digest 109 = .ok (.bipush 15, 2) := by decide +kernel
theorem dX6_digest_111 : decode cX6_digest 111 = .ok (.if_icmp .ge 19, 3) := by decide +kernel
theorem dX6_digest_114 : decode cX6_digest 114 = .ok (.aload_n 0, 1) := by decide +kernel
theorem dX6_digest_115 : decode cX6_digest 115 = .ok (.aload_n 0, 1) := by decide +kernel
theorem dX6_digest_116 : decode cX6_digest 116 = .ok (.iload_n 1, 1) := by decide +kernel
end
section
theorem dX6_digest_117 : decode cX6_digest 117 = .ok (.invokevirtual 167, 3) := by decide +kernel
theorem dX6_digest_120 : decode cX6_digest 120 = .ok (.i2l, 1) := by decide +kernel
theorem dX6_digest_121 : decode cX6_digest 121 = .ok (.invokevirtual 209, 3) := by decide +kernel
theorem dX6_digest_124 : decode cX6_digest 124 = .ok (.iinc 1 1, 3) := by decide +kernel
theorem dX6_digest_127 : decode cX6_digest 127 = .ok (.goto (-19), 3) := by decide +kernel
theorem dX6_digest_130 : decode cX6_digest 130 = .ok (.iconst 0, 1) := by decide +kernel
theorem dX6_digest_131 : decode cX6_digest 131 = .ok (.istore_n 1, 1) := by decide +kernel
theorem dX6_digest_132 : decode cX6_digest 132 = .ok (.iload_n 1, 1) := by decide +kernel
theorem dX6_digest_133 : decode cX6_digest 133 = .ok (.aload_n 0, 1) := by decide +kernel
theorem dX6_digest_134 : decode cX6_digest 134 = .ok (.getfield 50, 3) := by decide +kernel
theorem dX6_digest_137 : decode cX6_digest 137 = .ok (.if_icmp .ge 20, 3) := by decide +kernel
theorem dX6_digest_140 : decode cX6_digest 140 = .ok (.aload_n 0, 1) := by decide +kernel
theorem dX6_digest_141 : decode cX6_digest 141 = .ok (.aload_n 0, 1) := by decide +kernel
theorem dX6_digest_142 : decode cX6_digest 142 = .ok (.getfield 7, 3) := by decide +kernel
theorem dX6_digest_145 : decode cX6_digest 145 = .ok (.iload_n 1, 1) := by decide +kernel
theorem dX6_digest_146 : decode cX6_digest 146 = .ok (.iaload, 1) := by decide +kernel
theorem dX6_digest_147 : decode cX6_digest 147 = .ok (.i2l, 1) := by decide +kernel
theorem dX6_digest_148 : decode cX6_digest 148 = .ok (.invokevirtual 209, 3) := by decide +kernel
theorem dX6_digest_151 : decode cX6_digest 151 = .ok (.iinc 1 1, 3) := by decide +kernel
theorem dX6_digest_154 : decode cX6_digest 154 = .ok (.goto (-22), 3) := by decide +kernel
theorem dX6_digest_157 : decode cX6_digest 157 = .ok (.iconst 0, 1) := by decide +kernel
theorem dX6_digest_158 : decode cX6_digest 158 = .ok (.istore_n 1, 1) := by decide +kernel
theorem dX6_digest_159 : decode cX6_digest 159 = .ok (.iload_n 1, 1) := by decide +kernel
theorem dX6_digest_160 : decode cX6_digest 160 = .ok (.bipush 10, 2) := by decide +kernel
theorem dX6_digest_162 : decode cX6_digest 162 = .ok (.if_icmp .ge 19, 3) := by decide +kernel
theorem dX6_digest_165 : decode cX6_digest 165 = .ok (.aload_n 0, 1) := by decide +kernel
theorem dX6_digest_166 : decode cX6_digest 166 = .ok (.aload_n 0, 1) := by decide +kernel
theorem dX6_digest_167 : decode cX6_digest 167 = .ok (.iload_n 1, 1) := by decide +kernel
theorem dX6_digest_168 : decode cX6_digest 168 = .ok (.invokevirtual 200, 3) := by decide +kernel
theorem dX6_digest_171 : decode cX6_digest 171 = .ok (.i2l, 1) := by decide +kernel
theorem dX6_digest_172 : decode cX6_digest 172 = .ok (.invokevirtual 209, 3) := by decide +kernel
theorem dX6_digest_175 : decode cX6_digest 175 = .ok (.iinc 1 1, 3) := by decide +kernel
theorem dX6_digest_178 : decode cX6_digest 178 = .ok (.goto (-19), 3) := by decide +kernel
theorem dX6_digest_181 : decode cX6_digest 181 = .ok (.aload_n 0, 1) := by decide +kernel
theorem dX6_digest_182 : decode cX6_digest 182 = .ok (.getfield 205, 3) := by decide +kernel
theorem dX6_digest_185 : decode cX6_digest 185 = .ok (.lreturn, 1) := by decide +kernel
theorem dJ11_isValidCodePoint_9a6ad_0 : decode cJ11_isValidCodePoint_9a6ad 0 = .ok (.iload_n 0, 1) := by decide +kernel
theorem dJ11_isValidCodePoint_9a6ad_1 : decode cJ11_isValidCodePoint_9a6ad 1 = .ok (.bipush 16, 2) := by decide +kernel
theorem dJ11_isValidCodePoint_9a6ad_3 : decode cJ11_isValidCodePoint_9a6ad 3 = .ok (.iushr, 1) := by decide +kernel
theorem dJ11_isValidCodePoint_9a6ad_4 : decode cJ11_isValidCodePoint_9a6ad 4 = .ok (.istore_n 1, 1) := by decide +kernel
theorem dJ11_isValidCodePoint_9a6ad_5 : decode cJ11_isValidCodePoint_9a6ad 5 = .ok (.iload_n 1, 1) := by decide +kernel
theorem dJ11_isValidCodePoint_9a6ad_6 : decode cJ11_isValidCodePoint_9a6ad 6 = .ok (.bipush 17, 2) := by decide +kernel
theorem dJ11_isValidCodePoint_9a6ad_8 : decode cJ11_isValidCodePoint_9a6ad 8 = .ok (.if_icmp .ge 7, 3) := by decide +kernel
theorem dJ11_isValidCodePoint_9a6ad_11 : decode cJ11_isValidCodePoint_9a6ad 11 = .ok (.iconst 1, 1) := by decide +kernel
theorem dJ11_isValidCodePoint_9a6ad_12 : decode cJ11_isValidCodePoint_9a6ad 12 = .ok (.goto 4, 3) := by decide +kernel
theorem dJ11_isValidCodePoint_9a6ad_15 : decode cJ11_isValidCodePoint_9a6ad 15 = .ok (.iconst 0, 1) := by decide +kernel
theorem dJ11_isValidCodePoint_9a6ad_16 : decode cJ11_isValidCodePoint_9a6ad 16 = .ok (.ireturn, 1) := by decide +kernel
theorem dJ11_highSurrogate_5068e_0 : decode cJ11_highSurrogate_5068e 0 = .ok (.iload_n 0, 1) := by decide +kernel
theorem dJ11_highSurrogate_5068e_1 : decode cJ11_highSurrogate_5068e 1 = .ok (.bipush 10, 2) := by decide +kernel
theorem dJ11_highSurrogate_5068e_3 : decode cJ11_highSurrogate_5068e 3 = .ok (.iushr, 1) := by decide +kernel
theorem dJ11_highSurrogate_5068e_4 : decode cJ11_highSurrogate_5068e 4 = .ok (.ldc 110, 2) := by decide +kernel
theorem dJ11_highSurrogate_5068e_6 : decode cJ11_highSurrogate_5068e 6 = .ok (.iadd, 1) := by decide +kernel
theorem dJ11_highSurrogate_5068e_7 : decode cJ11_highSurrogate_5068e 7 = .ok (.i2c, 1) := by decide +kernel
theorem dJ11_highSurrogate_5068e_8 : decode cJ11_highSurrogate_5068e 8 = .ok (.ireturn, 1) := by decide +kernel
theorem dJ11_lowSurrogate_5068e_0 : decode cJ11_lowSurrogate_5068e 0 = .ok (.iload_n 0, 1) := by decide +kernel
theorem dJ11_lowSurrogate_5068e_1 : decode cJ11_lowSurrogate_5068e 1 = .ok (.sipush 1023, 3) := by decide +kernel
theorem dJ11_lowSurrogate_5068e_4 : decode cJ11_lowSurrogate_5068e 4 = .ok (.iand, 1) := by decide +kernel
theorem dJ11_lowSurrogate_5068e_5 : decode cJ11_lowSurrogate_5068e 5 = .ok (.ldc 76, 2) := by decide +kernel
theorem dJ11_lowSurrogate_5068e_7 : decode cJ11_lowSurrogate_5068e 7 = .ok (.iadd, 1) := by decide +kernel
theorem dJ11_lowSurrogate_5068e_8 : decode cJ11_lowSurrogate_5068e 8 = .ok (.i2c, 1) := by decide +kernel
theorem dJ11_lowSurrogate_5068e_9 : decode cJ11_lowSurrogate_5068e 9 = .ok (.ireturn, 1) := by decide +kernel
theorem dJ6_bitCount_0f7a4_0 : decode cJ6_bitCount_0f7a4 0 = .ok (.iload_n 0, 1) := by decide +kernel
theorem dJ6_bitCount_0f7a4_1 : decode cJ6_bitCount_0f7a4 1 = .ok (.iload_n 0, 1) := by decide +kernel
theorem dJ6_bitCount_0f7a4_2 : decode cJ6_bitCount_0f7a4 2 = .ok (.iconst 1, 1) := by decide +kernel
theorem dJ6_bitCount_0f7a4_3 : decode cJ6_bitCount_0f7a4 3 = .ok (.iushr, 1) := by decide +kernel
theorem dJ6_bitCount_0f7a4_4 : decode cJ6_bitCount_0f7a4 4 = .ok (.ldc_w 265, 3) := by decide +kernel
theorem dJ6_bitCount_0f7a4_7 : decode cJ6_bitCount_0f7a4 7 = .ok (.iand, 1) := by decide +kernel
theorem dJ6_bitCount_0f7a4_8 : decode cJ6_bitCount_0f7a4 8 = .ok (.isub, 1) := by decide +kernel
theorem dJ6_bitCount_0f7a4_9 : decode cJ6_bitCount_0f7a4 9 = .ok (.istore_n 0, 1) := by decide +kernel
theorem dJ6_bitCount_0f7a4_10 : decode cJ6_bitCount_0f7a4 10 = .ok (.iload_n 0, 1) := by decide +kernel
theorem dJ6_bitCount_0f7a4_11 : decode cJ6_bitCount_0f7a4 11 = .ok (.ldc_w 266, 3) := by decide +kernel
theorem dJ6_bitCount_0f7a4_14 : decode cJ6_bitCount_0f7a4 14 = .ok (.iand, 1) := by decide +kernel
theorem dJ6_bitCount_0f7a4_15 : decode cJ6_bitCount_0f7a4 15 = .ok (.iload_n 0, 1) := by decide +kernel
theorem dJ6_bitCount_0f7a4_16 : decode cJ6_bitCount_0f7a4 16 = .ok (.iconst 2, 1) := by decide +kernel
theorem dJ6_bitCount_0f7a4_17 : decode cJ6_bitCount_0f7a4 17 = .ok (.iushr, 1) := by decide +kernel
theorem dJ6_bitCount_0f7a4_18 : decode cJ6_bitCount_0f7a4 18 = .ok (.ldc_w 266, 3) := by decide +kernel
theorem dJ6_bitCount_0f7a4_21 : decode cJ6_bitCount_0f7a4 21 = .ok (.iand, 1) := by decide +kernel
theorem dJ6_bitCount_0f7a4_22 : decode cJ6_bitCount_0f7a4 22 = .ok (.iadd, 1) := by decide +kernel
theorem dJ6_bitCount_0f7a4_23 : decode cJ6_bitCount_0f7a4 23 = .ok (.istore_n 0, 1) := by decide +kernel
theorem dJ6_bitCount_0f7a4_24 : decode cJ6_bitCount_0f7a4 24 = .ok (.iload_n 0, 1) := by decide +kernel
theorem dJ6_bitCount_0f7a4_25 : decode cJ6_bitCount_0f7a4 25 = .ok (.iload_n 0, 1) := by decide +kernel
theorem dJ6_bitCount_0f7a4_26 : decode cJ6_bitCount_0f7a4 26 = .ok (.iconst 4, 1) := by decide +kernel
theorem dJ6_bitCount_0f7a4_27 : decode cJ6_bitCount_0f7a4 27 = .ok (.iushr, 1) := by decide +kernel
theorem dJ6_bitCount_0f7a4_28 : decode cJ6_bitCount_0f7a4 28 = .ok (.iadd, 1) := by decide +kernel
theorem dJ6_bitCount_0f7a4_29 : decode cJ6_bitCount_0f7a4 29 = .ok (.ldc_w 267, 3) := by decide +kernel
theorem dJ6_bitCount_0f7a4_32 : decode cJ6_bitCount_0f7a4 32 = .ok (.iand, 1) := by decide +kernel
theorem dJ6_bitCount_0f7a4_33 : decode cJ6_bitCount_0f7a4 33 = .ok (.istore_n 0, 1) := by decide +kernel
theorem dJ6_bitCount_0f7a4_34 : decode cJ6_bitCount_0f7a4 34 = .ok (.iload_n 0, 1) := by decide +kernel
theorem dJ6_bitCount_0f7a4_35 : decode cJ6_bitCount_0f7a4 35 = .ok (.iload_n 0, 1) := by decide +kernel
theorem dJ6_bitCount_0f7a4_36 : decode cJ6_bitCount_0f7a4 36 = .ok (.bipush 8, 2) := by decide +kernel
theorem dJ6_bitCount_0f7a4_38 : decode cJ6_bitCount_0f7a4 38 = .ok (.iushr, 1) := by decide +kernel
theorem dJ6_bitCount_0f7a4_39 : decode cJ6_bitCount_0f7a4 39 = .ok (.iadd, 1) := by decide +kernel
theorem dJ6_bitCount_0f7a4_40 : decode cJ6_bitCount_0f7a4 40 = .ok (.istore_n 0, 1) := by decide +kernel
theorem dJ6_bitCount_0f7a4_41 : decode cJ6_bitCount_0f7a4 41 = .ok (.iload_n 0, 1) := by decide +kernel
theorem dJ6_bitCount_0f7a4_42 : decode cJ6_bitCount_0f7a4 42 = .ok (.iload_n 0, 1) := by decide +kernel
theorem dJ6_bitCount_0f7a4_43 : decode cJ6_bitCount_0f7a4 43 = .ok (.bipush 16, 2) := by decide +kernel
theorem dJ6_bitCount_0f7a4_45 : decode cJ6_bitCount_0f7a4 45 = .ok (.iushr, 1) := by decide +kernel
theorem dJ6_bitCount_0f7a4_46 : decode cJ6_bitCount_0f7a4 46 = .ok (.iadd, 1) := by decide +kernel
theorem dJ6_bitCount_0f7a4_47 : decode cJ6_bitCount_0f7a4 47 = .ok (.istore_n 0, 1) := by decide +kernel
theorem dJ6_bitCount_0f7a4_48 : decode cJ6_bitCount_0f7a4 48 = .ok (.iload_n 0, 1) := by decide +kernel
theorem dJ6_bitCount_0f7a4_49 : decode cJ6_bitCount_0f7a4 49 = .ok (.bipush 63, 2) := by decide +kernel
theorem dJ6_bitCount_0f7a4_51 : decode cJ6_bitCount_0f7a4 51 = .ok (.iand, 1) := by decide +kernel
theorem dJ6_bitCount_0f7a4_52 : decode cJ6_bitCount_0f7a4 52 = .ok (.ireturn, 1) := by decide +kernel
theorem dJ9_max_7cf53_0 : decode cJ9_max_7cf53 0 = .ok (.iload_n 0, 1) := by decide +kernel
theorem dJ9_max_7cf53_1 : decode cJ9_max_7cf53 1 = .ok (.iload_n 1, 1) := by decide +kernel
theorem dJ9_max_7cf53_2 : decode cJ9_max_7cf53 2 = .ok (.if_icmp .lt 7, 3) := by decide +kernel
theorem dJ9_max_7cf53_5 : decode cJ9_max_7cf53 5 = .ok (.iload_n 0, 1) := by decide +kernel
theorem dJ9_max_7cf53_6 : decode cJ9_max_7cf53 6 = .ok (.goto 4, 3) := by decide +kernel
theorem dJ9_max_7cf53_9 : decode cJ9_max_7cf53 9 = .ok (.iload_n 1, 1) := by decide +kernel
theorem dJ9_max_7cf53_10 : decode cJ9_max_7cf53 10 = .ok (.ireturn, 1) := by decide +kernel
theorem dJ9_min_7cf53_0 : decode cJ9_min_7cf53 0 = .ok (.iload_n 0, 1) := by decide +kernel
theorem dJ9_min_7cf53_1 : decode cJ9_min_7cf53 1 = .ok (.iload_n 1, 1) := by decide +kernel
theorem dJ9_min_7cf53_2 : decode cJ9_min_7cf53 2 = .ok (.if_icmp .gt 7, 3) := by decide +kernel
theorem dJ9_min_7cf53_5 : decode cJ9_min_7cf53 5 = .ok (.iload_n 0, 1) := by decide +kernel
theorem dJ9_min_7cf53_6 : decode cJ9_min_7cf53 6 = .ok (.goto 4, 3) := by decide +kernel
theorem dJ9_min_7cf53_9 : decode cJ9_min_7cf53 9 = .ok (.iload_n 1, 1) := by decide +kernel
theorem dJ9_min_7cf53_10 : decode cJ9_min_7cf53 10 = .ok (.ireturn, 1) := by decide +kernel
set_option maxRecDepth 20000 in
theorem ggJ0_length_8abf5_J0_coder_7d493 : GoodIn wsJ0_length_8abf5 wsJ0_coder_7d493 := goodIn_r _ [6, 7, 8] (by decide +kernel) (by decide +kernel)
set_option maxRecDepth 20000 in
theorem gJ0_length_8abf5_J0_coder_7d493 : GoodIn wsJ0_length_8abf5 (wsV RJ0 335 RJ0 yJ0_coder_7d493 wsJ0_coder_7d493) := goodIn_app (goodIn_of _ (by decide +kernel)) ggJ0_length_8abf5_J0_coder_7d493
theorem dJ0_length_8abf5_0 : decode cJ0_length_8abf5 0 = .ok (.aload_n 0, 1) := by decide +kernel
theorem dJ0_length_8abf5_1 : decode cJ0_length_8abf5 1 = .ok (.getfield 9, 3) := by decide +kernel
theorem dJ0_length_8abf5_4 : decode cJ0_length_8abf5 4 = .ok (.arraylength, 1) := by decide +kernel
theorem dJ0_length_8abf5_5 : decode cJ0_length_8abf5 5 = .ok (.aload_n 0, 1) := by decide +kernel
theorem dJ0_length_8abf5_6 : decode cJ0_length_8abf5 6 = .ok (.invokevirtual 335, 3) := by decide +kernel
theorem dJ0_length_8abf5_9 : decode cJ0_length_8abf5 9 = .ok (.ishr, 1) := by decide +kernel
theorem dJ0_length_8abf5_10 : decode cJ0_length_8abf5 10 = .ok (.ireturn, 1) := by decide +kernel
set_option maxRecDepth 20000 in
theorem ggJ0_indexOf_0f7a4_J0_indexOf_7cf53 : GoodIn wsJ0_indexOf_0f7a4 wsJ0_indexOf_7cf53 := goodIn_r _ [5, 6, 7, 8, 9, 4, 10, 11, 12, 13, 14, 15, 16, 17, 18, 19, 20, 21, 22, 23, 24, 25, 26, 27, 28, 29, 30, 31, 32, 33, 34, 35, 36, 37, 38, 39, 40, 41, 42, 43, 44, 45, 46, 47, 48, 49, 50, 51, 52, 53, 54, 55, 56, 57, 58, 59, 60, 61, 62, 63, 64, 65, 66, 67, 68, 69, 70, 71, 72, 73, 74, 75, 76, 77, 78, 79, 80, 81, 82, 83, 84, 85] (by decide +kernel) (by decide +kernel)
set_option maxRecDepth 20000 in
theorem gJ0_indexOf_0f7a4_J0_indexOf_7cf53 : GoodIn wsJ0_indexOf_0f7a4 (wsV RJ0 633 RJ0 yJ0_indexOf_7cf53 wsJ0_indexOf_7cf53) := goodIn_app (goodIn_of _ (by decide +kernel)) ggJ0_indexOf_0f7a4_J0_indexOf_7cf53
theorem dJ0_indexOf_0f7a4_0 : decode cJ0_indexOf_0f7a4 0 = .ok (.aload_n 0, 1) := by decide +kernel
theorem dJ0_indexOf_0f7a4_1 : decode cJ0_indexOf_0f7a4 1 = .ok (.iload_n 1, 1) := by decide +kernel
theorem dJ0_indexOf_0f7a4_2 : decode cJ0_indexOf_0f7a4 2 = .ok (.iconst 0, 1) := by decide +kernel
theorem dJ0_indexOf_0f7a4_3 : decode cJ0_indexOf_0f7a4 3 = .ok (.invokevirtual 633, 3) := by decide +kernel
theorem dJ0_indexOf_0f7a4_6 : decode cJ0_indexOf_0f7a4 6 = .ok (.ireturn, 1) := by decide +kernel
set_option maxRecDepth 20000 in
theorem ggJ0_indexOf_7cf53_J0_isLatin1_aae02 : GoodIn wsJ0_indexOf_7cf53 wsJ0_isLatin1_aae02 := goodIn_r _ [6, 7, 8] (by decide +kernel) (by decide +kernel)
set_option maxRecDepth 20000 in
theorem gJ0_indexOf_7cf53_J0_isLatin1_aae02 : GoodIn wsJ0_indexOf_7cf53 (wsV RJ0 492 RJ0 yJ0_isLatin1_aae02 wsJ0_isLatin1_aae02) := goodIn_app (goodIn_of _ (by decide +kernel)) ggJ0_indexOf_7cf53_J0_isLatin1_aae02
set_option maxRecDepth 20000 in
theorem ggJ0_indexOf_7cf53_J0_length_8abf5 : GoodIn wsJ0_indexOf_7cf53 wsJ0_length_8abf5 := goodIn_r _ [12, 1, 13, 14, 15, 5, 16, 7, 8] (by decide +kernel) (by decide +kernel)
set_option maxRecDepth 20000 in
theorem gJ0_indexOf_7cf53_J0_length_8abf5 : GoodIn wsJ0_indexOf_7cf53 (wsV RJ0 505 RJ0 yJ0_length_8abf5 wsJ0_length_8abf5) := goodIn_app (goodIn_of _ (by decide +kernel)) ggJ0_indexOf_7cf53_J0_length_8abf5
set_option maxRecDepth 20000 in
theorem ggJ0_indexOf_7cf53_J1_indexOf_4cfef : GoodIn wsJ0_indexOf_7cf53 wsJ1_indexOf_4cfef := goodIn_r _ [20, 21, 22, 23, 24, 25, 26, 27, 28, 29, 19, 30, 31, 32, 33] (by decide +kernel) (by decide +kernel)
set_option maxRecDepth 20000 in
theorem gJ0_indexOf_7cf53_J1_indexOf_4cfef : GoodIn wsJ0_indexOf_7cf53 (va_wsS RJ0 637 yJ1_indexOf_4cfef wsJ1_indexOf_4cfef) := goodIn_app (goodIn_of _ (by decide +kernel)) ggJ0_indexOf_7cf53_J1_indexOf_4cfef
set_option maxRecDepth 20000 in
theorem ggJ0_indexOf_7cf53_J2_indexOf_4cfef : GoodIn wsJ0_indexOf_7cf53 wsJ2_indexOf_4cfef := goodIn_r _ [37, 38, 22, 23, 24, 39, 26, 27, 40, 41, 42, 36, 43, 44, 45, 46, 47, 48, 49, 50, 51, 5, 52, 53, 54, 55, 56, 57, 58, 59, 60, 61, 62, 63, 64, 65, 66, 67, 68, 69, 70, 71, 72, 73, 74, 75, 76, 77, 78, 79, 80, 81] (by decide +kernel) (by decide +kernel)
set_option maxRecDepth 20000 in
theorem gJ0_indexOf_7cf53_J2_indexOf_4cfef : GoodIn wsJ0_indexOf_7cf53 (va_wsS RJ0 640 yJ2_indexOf_4cfef wsJ2_indexOf_4cfef) := goodIn_app (goodIn_of _ (by decide +kernel)) ggJ0_indexOf_7cf53_J2_indexOf_4cfef
theorem dJ0_indexOf_7cf53_0 : decode cJ0_indexOf_7cf53 0 = .ok (.aload_n 0, 1) := by decide +kernel
theorem dJ0_indexOf_7cf53_1 : decode cJ0_indexOf_7cf53 1 = .ok (.invokevirtual 492, 3) := by decide +kernel
theorem dJ0_indexOf_7cf53_4 : decode cJ0_indexOf_7cf53 4 = .ok (.ifCond .eq 19, 3) := by decide +kernel
theorem dJ0_indexOf_7cf53_7 : decode cJ0_indexOf_7cf53 7 = .ok (.aload_n 0, 1) := by decide +kernel
theorem dJ0_indexOf_7cf53_8 : decode cJ0_indexOf_7cf53 8 = .ok (.getfield 9, 3) := by decide +kernel
theorem dJ0_indexOf_7cf53_11 : decode cJ0_indexOf_7cf53 11 = .ok (.iload_n 1, 1) := by decide +kernel
theorem dJ0_indexOf_7cf53_12 : decode cJ0_indexOf_7cf53 12 = .ok (.iload_n 2, 1) := by decide +kernel
theorem dJ0_indexOf_7cf53_13 : decode cJ0_indexOf_7cf53 13 = .ok (.aload_n 0, 1) := by decide +kernel
theorem dJ0_indexOf_7cf53_14 : decode cJ0_indexOf_7cf53 14 = .ok (.invokevirtual 505, 3) := by decide +kernel
theorem dJ0_indexOf_7cf53_17 : decode cJ0_indexOf_7cf53 17 = .ok (.invokestatic 637, 3) := by decide +kernel
theorem dJ0_indexOf_7cf53_20 : decode cJ0_indexOf_7cf53 20 = .ok (.goto 16, 3) := by decide +kernel
theorem dJ0_indexOf_7cf53_23 : decode cJ0_indexOf_7cf53 23 = .ok (.aload_n 0, 1) := by decide +kernel
theorem dJ0_indexOf_7cf53_24 : decode cJ0_indexOf_7cf53 24 = .ok (.getfield 9, 3) := by decide +kernel
theorem dJ0_indexOf_7cf53_27 : decode cJ0_indexOf_7cf53 27 = .ok (.iload_n 1, 1) := by decide +kernel
theorem dJ0_indexOf_7cf53_28 : decode cJ0_indexOf_7cf53 28 = .ok (.iload_n 2, 1) := by decide +kernel
theorem dJ0_indexOf_7cf53_29 : decode cJ0_indexOf_7cf53 29 = .ok (.aload_n 0, 1) := by decide +kernel
theorem dJ0_indexOf_7cf53_30 : decode cJ0_indexOf_7cf53 30 = .ok (.invokevirtual 505, 3) := by decide +kernel
theorem dJ0_indexOf_7cf53_33 : decode cJ0_indexOf_7cf53 33 = .ok (.invokestatic 640, 3) := by decide +kernel
theorem dJ0_indexOf_7cf53_36 : decode cJ0_indexOf_7cf53 36 = .ok (.ireturn, 1) := by decide +kernel
theorem dJ0_coder_7d493_0 : decode cJ0_coder_7d493 0 = .ok (.getstatic 38, 3) := by decide +kernel
theorem dJ0_coder_7d493_3 : decode cJ0_coder_7d493 3 = .ok (.ifCond .eq 10, 3) := by decide +kernel
theorem dJ0_coder_7d493_6 : decode cJ0_coder_7d493 6 = .ok (.aload_n 0, 1) := by decide +kernel
theorem dJ0_coder_7d493_7 : decode cJ0_coder_7d493 7 = .ok (.getfield 15, 3) := by decide +kernel
theorem dJ0_coder_7d493_10 : decode cJ0_coder_7d493 10 = .ok (.goto 4, 3) := by decide +kernel
theorem dJ0_coder_7d493_13 : decode cJ0_coder_7d493 13 = .ok (.iconst 1, 1) := by decide +kernel
theorem dJ0_coder_7d493_14 : decode cJ0_coder_7d493 14 = .ok (.ireturn, 1) := by decide +kernel
theorem dJ0_isLatin1_aae02_0 : decode cJ0_isLatin1_aae02 0 = .ok (.getstatic 38, 3) := by decide +kernel
theorem dJ0_isLatin1_aae02_3 : decode cJ0_isLatin1_aae02 3 = .ok (.ifCond .eq 14, 3) := by decide +kernel
theorem dJ0_isLatin1_aae02_6 : decode cJ0_isLatin1_aae02 6 = .ok (.aload_n 0, 1) := by decide +kernel
theorem dJ0_isLatin1_aae02_7 : decode cJ0_isLatin1_aae02 7 = .ok (.getfield 15, 3) := by decide +kernel
theorem dJ0_isLatin1_aae02_10 : decode cJ0_isLatin1_aae02 10 = .ok (.ifCond .ne 7, 3) := by decide +kernel
theorem dJ0_isLatin1_aae02_13 : decode cJ0_isLatin1_aae02 13 = .ok (.iconst 1, 1) := by decide +kernel
theorem dJ0_isLatin1_aae02_14 : decode cJ0_isLatin1_aae02 14 = .ok (.goto 4, 3) := by decide +kernel
theorem dJ0_isLatin1_aae02_17 : decode cJ0_isLatin1_aae02 17 = .ok (.iconst 0, 1) := by decide +kernel
theorem dJ0_isLatin1_aae02_18 : decode cJ0_isLatin1_aae02 18 = .ok (.ireturn, 1) := by decide +kernel
set_option maxRecDepth 20000 in
theorem ggJ0_checkBoundsBeginEnd_23922_J3_checkFromToIndex_8c36e : GoodIn wsJ0_checkBoundsBeginEnd_23922 wsJ3_checkFromToIndex_8c36e := goodIn_r _ [5] (by decide +kernel) (by decide +kernel)
set_option maxRecDepth 20000 in
theorem gJ0_checkBoundsBeginEnd_23922_J3_checkFromToIndex_8c36e : GoodIn wsJ0_checkBoundsBeginEnd_23922 (va_wsS RJ0 1062 yJ3_checkFromToIndex_8c36e wsJ3_checkFromToIndex_8c36e) := goodIn_app (goodIn_of _ (by decide +kernel)) ggJ0_checkBoundsBeginEnd_23922_J3_checkFromToIndex_8c36e
theorem dJ0_checkBoundsBeginEnd_23922_0 : decode cJ0_checkBoundsBeginEnd_23922 0 = .ok (.iload_n 0, 1) := by decide +kernel
theorem dJ0_checkBoundsBeginEnd_23922_1 : decode cJ0_checkBoundsBeginEnd_23922 1 = .ok (.iload_n 1, 1) := by decide +kernel
theorem dJ0_checkBoundsBeginEnd_23922_2 : decode cJ0_checkBoundsBeginEnd_23922 2 = .ok (.iload_n 2, 1) := by decide +kernel
theorem dJ0_checkBoundsBeginEnd_23922_3 : decode cJ0_checkBoundsBeginEnd_23922 3 = .ok (.getstatic 1053, 3) := by decide +kernel
theorem dJ0_checkBoundsBeginEnd_23922_6 : decode cJ0_checkBoundsBeginEnd_23922 6 = .ok (.invokestatic 1062, 3) := by decide +kernel
theorem dJ0_checkBoundsBeginEnd_23922_9 : decode cJ0_checkBoundsBeginEnd_23922 9 = .ok (.pop, 1) := by decide +kernel
theorem dJ0_checkBoundsBeginEnd_23922_10 : decode cJ0_checkBoundsBeginEnd_23922 10 = .ok (.return_, 1) := by decide +kernel
theorem dJ1_canEncode_9a6ad_0 : decode cJ1_canEncode_9a6ad 0 = .ok (.iload_n 0, 1) := by decide +kernel
theorem dJ1_canEncode_9a6ad_1 : decode cJ1_canEncode_9a6ad 1 = .ok (.ifCond .lt 14, 3) := by decide +kernel
theorem dJ1_canEncode_9a6ad_4 : decode cJ1_canEncode_9a6ad 4 = .ok (.iload_n 0, 1) := by decide +kernel
theorem dJ1_canEncode_9a6ad_5 : decode cJ1_canEncode_9a6ad 5 = .ok (.sipush 255, 3) := by decide +kernel
theorem dJ1_canEncode_9a6ad_8 : decode cJ1_canEncode_9a6ad 8 = .ok (.if_icmp .gt 7, 3) := by decide +kernel
theorem dJ1_canEncode_9a6ad_11 : decode cJ1_canEncode_9a6ad 11 = .ok (.iconst 1, 1) := by decide +kernel
theorem dJ1_canEncode_9a6ad_12 : decode cJ1_canEncode_9a6ad 12 = .ok (.goto 4, 3) := by decide +kernel
theorem dJ1_canEncode_9a6ad_15 : decode cJ1_canEncode_9a6ad 15 = .ok (.iconst 0, 1) := by decide +kernel
theorem dJ1_canEncode_9a6ad_16 : decode cJ1_canEncode_9a6ad 16 = .ok (.ireturn, 1) := by decide +kernel
set_option maxRecDepth 20000 in
theorem ggJ1_indexOf_4cfef_J1_canEncode_9a6ad : GoodIn wsJ1_indexOf_4cfef wsJ1_canEncode_9a6ad := goodIn_r _ [11] (by decide +kernel) (by decide +kernel)
set_option maxRecDepth 20000 in
theorem gJ1_indexOf_4cfef_J1_canEncode_9a6ad : GoodIn wsJ1_indexOf_4cfef (va_wsS RJ1 88 yJ1_canEncode_9a6ad wsJ1_canEncode_9a6ad) := goodIn_app (goodIn_of _ (by decide +kernel)) ggJ1_indexOf_4cfef_J1_canEncode_9a6ad
set_option maxRecDepth 20000 in
theorem ggJ1_indexOf_4cfef_J1_indexOfChar_4cfef : GoodIn wsJ1_indexOf_4cfef wsJ1_indexOfChar_4cfef := goodIn_r _ [14] (by decide +kernel) (by decide +kernel)
set_option maxRecDepth 20000 in
theorem gJ1_indexOf_4cfef_J1_indexOfChar_4cfef : GoodIn wsJ1_indexOf_4cfef (va_wsS RJ1 95 yJ1_indexOfChar_4cfef wsJ1_indexOfChar_4cfef) := goodIn_app (goodIn_of _ (by decide +kernel)) ggJ1_indexOf_4cfef_J1_indexOfChar_4cfef
theorem dJ1_indexOf_4cfef_0 : decode cJ1_indexOf_4cfef 0 = .ok (.iload_n 1, 1) := by decide +kernel
theorem dJ1_indexOf_4cfef_1 : decode cJ1_indexOf_4cfef 1 = .ok (.invokestatic 88, 3) := by decide +kernel
theorem dJ1_indexOf_4cfef_4 : decode cJ1_indexOf_4cfef 4 = .ok (.ifCond .ne 5, 3) := by decide +kernel
theorem dJ1_indexOf_4cfef_7 : decode cJ1_indexOf_4cfef 7 = .ok (.iconst (-1), 1) := by decide +kernel
theorem dJ1_indexOf_4cfef_8 : decode cJ1_indexOf_4cfef 8 = .ok (.ireturn, 1) := by decide +kernel
theorem dJ1_indexOf_4cfef_9 : decode cJ1_indexOf_4cfef 9 = .ok (.iload_n 2, 1) := by decide +kernel
theorem dJ1_indexOf_4cfef_10 : decode cJ1_indexOf_4cfef 10 = .ok (.iconst 0, 1) := by decide +kernel
theorem dJ1_indexOf_4cfef_11 : decode cJ1_indexOf_4cfef 11 = .ok (.invokestatic 92, 3) := by decide +kernel
theorem dJ1_indexOf_4cfef_14 : decode cJ1_indexOf_4cfef 14 = .ok (.istore_n 2, 1) := by decide +kernel
theorem dJ1_indexOf_4cfef_15 : decode cJ1_indexOf_4cfef 15 = .ok (.iload_n 3, 1) := by decide +kernel
theorem dJ1_indexOf_4cfef_16 : decode cJ1_indexOf_4cfef 16 = .ok (.aload_n 0, 1) := by decide +kernel
theorem dJ1_indexOf_4cfef_17 : decode cJ1_indexOf_4cfef 17 = .ok (.arraylength, 1) := by decide +kernel
theorem dJ1_indexOf_4cfef_18 : decode cJ1_indexOf_4cfef 18 = .ok (.invokestatic 38, 3) := by decide +kernel
theorem dJ1_indexOf_4cfef_21 : decode cJ1_indexOf_4cfef 21 = .ok (.istore_n 3, 1) := by decide +kernel
theorem dJ1_indexOf_4cfef_22 : decode cJ1_indexOf_4cfef 22 = .ok (.iload_n 2, 1) := by decide +kernel
theorem dJ1_indexOf_4cfef_23 : decode cJ1_indexOf_4cfef 23 = .ok (.iload_n 3, 1) := by decide +kernel
theorem dJ1_indexOf_4cfef_24 : decode cJ1_indexOf_4cfef 24 = .ok (.if_icmp .lt 5, 3) := by decide +kernel
theorem dJ1_indexOf_4cfef_27 : decode cJ1_indexOf_4cfef 27 = .ok (.iconst (-1), 1) := by decide +kernel
theorem dJ1_indexOf_4cfef_28 : decode cJ1_indexOf_4cfef 28 = .ok (.ireturn, 1) := by decide +kernel
theorem dJ1_indexOf_4cfef_29 : decode cJ1_indexOf_4cfef 29 = .ok (.aload_n 0, 1) := by decide +kernel
theorem dJ1_indexOf_4cfef_30 : decode cJ1_indexOf_4cfef 30 = .ok (.iload_n 1, 1) := by decide +kernel
theorem dJ1_indexOf_4cfef_31 : decode cJ1_indexOf_4cfef 31 = .ok (.iload_n 2, 1) := by decide +kernel
theorem dJ1_indexOf_4cfef_32 : decode cJ1_indexOf_4cfef 32 = .ok (.iload_n 3, 1) := by decide +kernel
theorem dJ1_indexOf_4cfef_33 : decode cJ1_indexOf_4cfef 33 = .ok (.invokestatic 95, 3) := by decide +kernel
theorem dJ1_indexOf_4cfef_36 : decode cJ1_indexOf_4cfef 36 = .ok (.ireturn, 1) := by decide +kernel
theorem dJ1_indexOfChar_4cfef_0 : decode cJ1_indexOfChar_4cfef 0 = .ok (.iload_n 1, 1) := by decide +kernel
theorem dJ1_indexOfChar_4cfef_1 : decode cJ1_indexOfChar_4cfef 1 = .ok (.i2b, 1) := by decide +kernel
theorem dJ1_indexOfChar_4cfef_2 : decode cJ1_indexOfChar_4cfef 2 = .ok (.istore 4, 2) := by decide +kernel
theorem dJ1_indexOfChar_4cfef_4 : decode cJ1_indexOfChar_4cfef 4 = .ok (.iload_n 2, 1) := by decide +kernel
theorem dJ1_indexOfChar_4cfef_5 : decode cJ1_indexOfChar_4cfef 5 = .ok (.istore 5, 2) := by decide +kernel
theorem dJ1_indexOfChar_4cfef_7 : decode cJ1_indexOfChar_4cfef 7 = .ok (.iload 5, 2) := by decide +kernel
theorem dJ1_indexOfChar_4cfef_9 : decode cJ1_indexOfChar_4cfef 9 = .ok (.iload_n 3, 1) := by decide +kernel
theorem dJ1_indexOfChar_4cfef_10 : decode cJ1_indexOfChar_4cfef 10 = .ok (.if_icmp .ge 21, 3) := by decide +kernel
theorem dJ1_indexOfChar_4cfef_13 : decode cJ1_indexOfChar_4cfef 13 = .ok (.aload_n 0, 1) := by decide +kernel
theorem dJ1_indexOfChar_4cfef_14 : decode cJ1_indexOfChar_4cfef 14 = .ok (.iload 5, 2) := by decide +kernel
theorem dJ1_indexOfChar_4cfef_16 : decode cJ1_indexOfChar_4cfef 16 = .ok (.baload, 1) := by decide +kernel
theorem dJ1_indexOfChar_4cfef_17 : decode cJ1_indexOfChar_4cfef 17 = .ok (.iload 4, 2) := by decide +kernel
theorem dJ1_indexOfChar_4cfef_19 : decode cJ1_indexOfChar_4cfef 19 = .ok (.if_icmp .ne 6, 3) := by decide +kernel
theorem dJ1_indexOfChar_4cfef_22 : decode cJ1_indexOfChar_4cfef 22 = .ok (.iload 5, 2) := by decide +kernel
theorem dJ1_indexOfChar_4cfef_24 : decode cJ1_indexOfChar_4cfef 24 = .ok (.ireturn, 1) := by decide +kernel
theorem dJ1_indexOfChar_4cfef_25 : decode cJ1_indexOfChar_4cfef 25 = .ok (.iinc 5 1, 3) := by decide +kernel
theorem dJ1_indexOfChar_4cfef_28 : decode cJ1_indexOfChar_4cfef 28 = .ok (.goto (-21), 3) := by decide +kernel
theorem dJ1_indexOfChar_4cfef_31 : decode cJ1_indexOfChar_4cfef 31 = .ok (.iconst (-1), 1) := by decide +kernel
theorem dJ1_indexOfChar_4cfef_32 : decode cJ1_indexOfChar_4cfef 32 = .ok (.ireturn, 1) := by decide +kernel
set_option maxRecDepth 20000 in
theorem ggJ2_getChar_3b067_J2_length_9d52b : GoodIn wsJ2_getChar_3b067 wsJ2_length_9d52b := goodIn_r _ [7] (by decide +kernel) (by decide +kernel)
set_option maxRecDepth 20000 in
theorem gJ2_getChar_3b067_J2_length_9d52b : GoodIn wsJ2_getChar_3b067 (va_wsS RJ2 48 yJ2_length_9d52b wsJ2_length_9d52b) := goodIn_app (goodIn_of _ (by decide +kernel)) ggJ2_getChar_3b067_J2_length_9d52b
theorem dJ2_getChar_3b067_0 : decode cJ2_getChar_3b067 0 = .ok (.getstatic 44, 3) := by decide +kernel
theorem dJ2_getChar_3b067_3 : decode cJ2_getChar_3b067 3 = .ok (.ifCond .ne 25, 3) := by decide +kernel
theorem dJ2_getChar_3b067_6 : decode cJ2_getChar_3b067 6 = .ok (.iload_n 1, 1) := by decide +kernel
theorem dJ2_getChar_3b067_7 : decode cJ2_getChar_3b067 7 = .ok (.ifCond .lt 11, 3) := by decide +kernel
theorem dJ2_getChar_3b067_10 : decode cJ2_getChar_3b067 10 = .ok (.iload_n 1, 1) := by decide +kernel
theorem dJ2_getChar_3b067_11 : decode cJ2_getChar_3b067 11 = .ok (.aload_n 0, 1) := by decide +kernel
theorem dJ2_getChar_3b067_12 : decode cJ2_getChar_3b067 12 = .ok (.invokestatic 48, 3) := by decide +kernel
theorem dJ2_getChar_3b067_15 : decode cJ2_getChar_3b067 15 = .ok (.if_icmp .lt 13, 3) := by decide +kernel
theorem dJ2_getChar_3b067_18 : decode cJ2_getChar_3b067 18 = .ok (.new 52, 3) := by decide +kernel
theorem dJ2_getChar_3b067_21 : decode cJ2_getChar_3b067 21 = .ok (.dup, 1) := by decide +kernel
theorem dJ2_getChar_3b067_22 : decode cJ2_getChar_3b067 22 = .ok (.ldc 54, 2) := by decide +kernel
theorem dJ2_getChar_3b067_24 : decode cJ2_getChar_3b067 24 = .ok (.invokespecial 56, 3) := by decide +kernel
theorem dJ2_getChar_3b067_27 : decode cJ2_getChar_3b067 27 = .ok (.athrow, 1) := by decide +kernel
theorem dJ2_getChar_3b067_28 : decode cJ2_getChar_3b067 28 = .ok (.iload_n 1, 1) := by decide +kernel
theorem dJ2_getChar_3b067_29 : decode cJ2_getChar_3b067 29 = .ok (.iconst 1, 1) := by decide +kernel
theorem dJ2_getChar_3b067_30 : decode cJ2_getChar_3b067 30 = .ok (.ishl, 1) := by decide +kernel
theorem dJ2_getChar_3b067_31 : decode cJ2_getChar_3b067 31 = .ok (.istore_n 1, 1) := by decide +kernel
theorem dJ2_getChar_3b067_32 : decode cJ2_getChar_3b067 32 = .ok (.aload_n 0, 1) := by decide +kernel
theorem dJ2_getChar_3b067_33 : decode cJ2_getChar_3b067 33 = .ok (.iload_n 1, 1) := by decide +kernel
theorem dJ2_getChar_3b067_34 : decode cJ2_getChar_3b067 34 = .ok (.iinc 1 1, 3) := by decide +kernel
theorem dJ2_getChar_3b067_37 : decode cJ2_getChar_3b067 37 = .ok (.baload, 1) := by decide +kernel
theorem dJ2_getChar_3b067_38 : decode cJ2_getChar_3b067 38 = .ok (.sipush 255, 3) := by decide +kernel
theorem dJ2_getChar_3b067_41 : decode cJ2_getChar_3b067 41 = .ok (.iand, 1) := by decide +kernel
theorem dJ2_getChar_3b067_42 : decode cJ2_getChar_3b067 42 = .ok (.getstatic 59, 3) := by decide +kernel
theorem dJ2_getChar_3b067_45 : decode cJ2_getChar_3b067 45 = .ok (.ishl, 1) := by decide +kernel
theorem dJ2_getChar_3b067_46 : decode cJ2_getChar_3b067 46 = .ok (.aload_n 0, 1) := by decide +kernel
theorem dJ2_getChar_3b067_47 : decode cJ2_getChar_3b067 47 = .ok (.iload_n 1, 1) := by decide +kernel
theorem dJ2_getChar_3b067_48 : decode cJ2_getChar_3b067 48 = .ok (.baload, 1) := by decide +kernel
theorem dJ2_getChar_3b067_49 : decode cJ2_getChar_3b067 49 = .ok (.sipush 255, 3) := by decide +kernel
theorem dJ2_getChar_3b067_52 : decode cJ2_getChar_3b067 52 = .ok (.iand, 1) := by decide +kernel
theorem dJ2_getChar_3b067_53 : decode cJ2_getChar_3b067 53 = .ok (.getstatic 63, 3) := by decide +kernel
theorem dJ2_getChar_3b067_56 : decode cJ2_getChar_3b067 56 = .ok (.ishl, 1) := by decide +kernel
theorem dJ2_getChar_3b067_57 : decode cJ2_getChar_3b067 57 = .ok (.ior, 1) := by decide +kernel
theorem dJ2_getChar_3b067_58 : decode cJ2_getChar_3b067 58 = .ok (.i2c, 1) := by decide +kernel
theorem dJ2_getChar_3b067_59 : decode cJ2_getChar_3b067 59 = .ok (.ireturn, 1) := by decide +kernel
theorem dJ2_length_9d52b_0 : decode cJ2_length_9d52b 0 = .ok (.aload_n 0, 1) := by decide +kernel
theorem dJ2_length_9d52b_1 : decode cJ2_length_9d52b 1 = .ok (.arraylength, 1) := by decide +kernel
theorem dJ2_length_9d52b_2 : decode cJ2_length_9d52b 2 = .ok (.iconst 1, 1) := by decide +kernel
theorem dJ2_length_9d52b_3 : decode cJ2_length_9d52b 3 = .ok (.ishr, 1) := by decide +kernel
theorem dJ2_length_9d52b_4 : decode cJ2_length_9d52b 4 = .ok (.ireturn, 1) := by decide +kernel
set_option maxRecDepth 20000 in
theorem ggJ2_indexOf_4cfef_J2_indexOfChar_4cfef : GoodIn wsJ2_indexOf_4cfef wsJ2_indexOfChar_4cfef := goodIn_r _ [12, 13, 14, 11, 15, 16, 17, 18, 19, 20, 21, 22, 23, 24, 25, 26, 27, 28, 29, 30, 31, 32, 33, 34, 35, 36] (by decide +kernel) (by decide +kernel)
set_option maxRecDepth 20000 in
theorem gJ2_indexOf_4cfef_J2_indexOfChar_4cfef : GoodIn wsJ2_indexOf_4cfef (va_wsS RJ2 228 yJ2_indexOfChar_4cfef wsJ2_indexOfChar_4cfef) := goodIn_app (goodIn_of _ (by decide +kernel)) ggJ2_indexOf_4cfef_J2_indexOfChar_4cfef
set_option maxRecDepth 20000 in
theorem ggJ2_indexOf_4cfef_J2_indexOfSupplementary_4cfef : GoodIn wsJ2_indexOf_4cfef wsJ2_indexOfSupplementary_4cfef := goodIn_r _ [39, 40, 41, 42, 43, 44, 45, 46, 47, 48, 49, 50, 51, 13, 14, 11, 15, 16, 17, 18, 19, 20, 21, 22, 23, 24, 25, 26, 27, 31, 32, 33, 34, 35, 36] (by decide +kernel) (by decide +kernel)
set_option maxRecDepth 20000 in
theorem gJ2_indexOf_4cfef_J2_indexOfSupplementary_4cfef : GoodIn wsJ2_indexOf_4cfef (va_wsS RJ2 232 yJ2_indexOfSupplementary_4cfef wsJ2_indexOfSupplementary_4cfef) := goodIn_app (goodIn_of _ (by decide +kernel)) ggJ2_indexOf_4cfef_J2_indexOfSupplementary_4cfef
theorem dJ2_indexOf_4cfef_0 : decode cJ2_indexOf_4cfef 0 = .ok (.iload_n 2, 1) := by decide +kernel
theorem dJ2_indexOf_4cfef_1 : decode cJ2_indexOf_4cfef 1 = .ok (.iconst 0, 1) := by decide +kernel
theorem dJ2_indexOf_4cfef_2 : decode cJ2_indexOf_4cfef 2 = .ok (.invokestatic 224, 3) := by decide +kernel
theorem dJ2_indexOf_4cfef_5 : decode cJ2_indexOf_4cfef 5 = .ok (.istore_n 2, 1) := by decide +kernel
theorem dJ2_indexOf_4cfef_6 : decode cJ2_indexOf_4cfef 6 = .ok (.iload_n 3, 1) := by decide +kernel
theorem dJ2_indexOf_4cfef_7 : decode cJ2_indexOf_4cfef 7 = .ok (.aload_n 0, 1) := by decide +kernel
theorem dJ2_indexOf_4cfef_8 : decode cJ2_indexOf_4cfef 8 = .ok (.arraylength, 1) := by decide +kernel
theorem dJ2_indexOf_4cfef_9 : decode cJ2_indexOf_4cfef 9 = .ok (.iconst 1, 1) := by decide +kernel
theorem dJ2_indexOf_4cfef_10 : decode cJ2_indexOf_4cfef 10 = .ok (.ishr, 1) := by decide +kernel
theorem dJ2_indexOf_4cfef_11 : decode cJ2_indexOf_4cfef 11 = .ok (.invokestatic 183, 3) := by decide +kernel
theorem dJ2_indexOf_4cfef_14 : decode cJ2_indexOf_4cfef 14 = .ok (.istore_n 3, 1) := by decide +kernel
theorem dJ2_indexOf_4cfef_15 : decode cJ2_indexOf_4cfef 15 = .ok (.iload_n 2, 1) := by decide +kernel
theorem dJ2_indexOf_4cfef_16 : decode cJ2_indexOf_4cfef 16 = .ok (.iload_n 3, 1) := by decide +kernel
theorem dJ2_indexOf_4cfef_17 : decode cJ2_indexOf_4cfef 17 = .ok (.if_icmp .lt 5, 3) := by decide +kernel
theorem dJ2_indexOf_4cfef_20 : decode cJ2_indexOf_4cfef 20 = .ok (.iconst (-1), 1) := by decide +kernel
theorem dJ2_indexOf_4cfef_21 : decode cJ2_indexOf_4cfef 21 = .ok (.ireturn, 1) := by decide +kernel
theorem dJ2_indexOf_4cfef_22 : decode cJ2_indexOf_4cfef 22 = .ok (.iload_n 1, 1) := by decide +kernel
theorem dJ2_indexOf_4cfef_23 : decode cJ2_indexOf_4cfef 23 = .ok (.ldc 227, 2) := by decide +kernel
theorem dJ2_indexOf_4cfef_25 : decode cJ2_indexOf_4cfef 25 = .ok (.if_icmp .ge 11, 3) := by decide +kernel
theorem dJ2_indexOf_4cfef_28 : decode cJ2_indexOf_4cfef 28 = .ok (.aload_n 0, 1) := by decide +kernel
theorem dJ2_indexOf_4cfef_29 : decode cJ2_indexOf_4cfef 29 = .ok (.iload_n 1, 1) := by decide +kernel
theorem dJ2_indexOf_4cfef_30 : decode cJ2_indexOf_4cfef 30 = .ok (.iload_n 2, 1) := by decide +kernel
theorem dJ2_indexOf_4cfef_31 : decode cJ2_indexOf_4cfef 31 = .ok (.iload_n 3, 1) := by decide +kernel
theorem dJ2_indexOf_4cfef_32 : decode cJ2_indexOf_4cfef 32 = .ok (.invokestatic 228, 3) := by decide +kernel
theorem dJ2_indexOf_4cfef_35 : decode cJ2_indexOf_4cfef 35 = .ok (.ireturn, 1) := by decide +kernel
theorem dJ2_indexOf_4cfef_36 : decode cJ2_indexOf_4cfef 36 = .ok (.aload_n 0, 1) := by decide +kernel
theorem dJ2_indexOf_4cfef_37 : decode cJ2_indexOf_4cfef 37 = .ok (.iload_n 1, 1) := by decide +kernel
theorem dJ2_indexOf_4cfef_38 : decode cJ2_indexOf_4cfef 38 = .ok (.iload_n 2, 1) := by decide +kernel
theorem dJ2_indexOf_4cfef_39 : decode cJ2_indexOf_4cfef 39 = .ok (.iload_n 3, 1) := by decide +kernel
theorem dJ2_indexOf_4cfef_40 : decode cJ2_indexOf_4cfef 40 = .ok (.invokestatic 232, 3) := by decide +kernel
theorem dJ2_indexOf_4cfef_43 : decode cJ2_indexOf_4cfef 43 = .ok (.ireturn, 1) := by decide +kernel
set_option maxRecDepth 20000 in
theorem ggJ2_indexOfChar_4cfef_J2_checkBoundsBeginEnd_d044e : GoodIn wsJ2_indexOfChar_4cfef wsJ2_checkBoundsBeginEnd_d044e := goodIn_r _ [4, 5, 6, 3, 7, 8, 9, 10, 11, 12, 13, 14, 15, 16] (by decide +kernel) (by decide +kernel)
set_option maxRecDepth 20000 in
theorem gJ2_indexOfChar_4cfef_J2_checkBoundsBeginEnd_d044e : GoodIn wsJ2_indexOfChar_4cfef (va_wsS RJ2 96 yJ2_checkBoundsBeginEnd_d044e wsJ2_checkBoundsBeginEnd_d044e) := goodIn_app (goodIn_of _ (by decide +kernel)) ggJ2_indexOfChar_4cfef_J2_checkBoundsBeginEnd_d044e
set_option maxRecDepth 20000 in
theorem ggJ2_indexOfChar_4cfef_J2_indexOfCharUnsafe_4cfef : GoodIn wsJ2_indexOfChar_4cfef wsJ2_indexOfCharUnsafe_4cfef := goodIn_r _ [19, 20, 21, 3, 22, 23, 24, 25, 5, 6, 7] (by decide +kernel) (by decide +kernel)
set_option maxRecDepth 20000 in
theorem gJ2_indexOfChar_4cfef_J2_indexOfCharUnsafe_4cfef : GoodIn wsJ2_indexOfChar_4cfef (va_wsS RJ2 244 yJ2_indexOfCharUnsafe_4cfef wsJ2_indexOfCharUnsafe_4cfef) := goodIn_app (goodIn_of _ (by decide +kernel)) ggJ2_indexOfChar_4cfef_J2_indexOfCharUnsafe_4cfef
theorem dJ2_indexOfChar_4cfef_0 : decode cJ2_indexOfChar_4cfef 0 = .ok (.iload_n 2, 1) := by decide +kernel
theorem dJ2_indexOfChar_4cfef_1 : decode cJ2_indexOfChar_4cfef 1 = .ok (.iload_n 3, 1) := by decide +kernel
theorem dJ2_indexOfChar_4cfef_2 : decode cJ2_indexOfChar_4cfef 2 = .ok (.aload_n 0, 1) := by decide +kernel
theorem dJ2_indexOfChar_4cfef_3 : decode cJ2_indexOfChar_4cfef 3 = .ok (.invokestatic 96, 3) := by decide +kernel
theorem dJ2_indexOfChar_4cfef_6 : decode cJ2_indexOfChar_4cfef 6 = .ok (.aload_n 0, 1) := by decide +kernel
theorem dJ2_indexOfChar_4cfef_7 : decode cJ2_indexOfChar_4cfef 7 = .ok (.iload_n 1, 1) := by decide +kernel
theorem dJ2_indexOfChar_4cfef_8 : decode cJ2_indexOfChar_4cfef 8 = .ok (.iload_n 2, 1) := by decide +kernel
theorem dJ2_indexOfChar_4cfef_9 : decode cJ2_indexOfChar_4cfef 9 = .ok (.iload_n 3, 1) := by decide +kernel
theorem dJ2_indexOfChar_4cfef_10 : decode cJ2_indexOfChar_4cfef 10 = .ok (.invokestatic 244, 3) := by decide +kernel
theorem dJ2_indexOfChar_4cfef_13 : decode cJ2_indexOfChar_4cfef 13 = .ok (.ireturn, 1) := by decide +kernel
set_option maxRecDepth 20000 in
theorem ggJ2_indexOfCharUnsafe_4cfef_J2_getChar_3b067 : GoodIn wsJ2_indexOfCharUnsafe_4cfef wsJ2_getChar_3b067 := goodIn_r _ [4, 5, 6, 7, 8, 9, 3, 10] (by decide +kernel) (by decide +kernel)
set_option maxRecDepth 20000 in
theorem gJ2_indexOfCharUnsafe_4cfef_J2_getChar_3b067 : GoodIn wsJ2_indexOfCharUnsafe_4cfef (va_wsS RJ2 71 yJ2_getChar_3b067 wsJ2_getChar_3b067) := goodIn_app (goodIn_of _ (by decide +kernel)) ggJ2_indexOfCharUnsafe_4cfef_J2_getChar_3b067
theorem dJ2_indexOfCharUnsafe_4cfef_0 : decode cJ2_indexOfCharUnsafe_4cfef 0 = .ok (.iload_n 2, 1) := by decide +kernel
theorem dJ2_indexOfCharUnsafe_4cfef_1 : decode cJ2_indexOfCharUnsafe_4cfef 1 = .ok (.istore 4, 2) := by decide +kernel
theorem dJ2_indexOfCharUnsafe_4cfef_3 : decode cJ2_indexOfCharUnsafe_4cfef 3 = .ok (.iload 4, 2) := by decide +kernel
theorem dJ2_indexOfCharUnsafe_4cfef_5 : decode cJ2_indexOfCharUnsafe_4cfef 5 = .ok (.iload_n 3, 1) := by decide +kernel
theorem dJ2_indexOfCharUnsafe_4cfef_6 : decode cJ2_indexOfCharUnsafe_4cfef 6 = .ok (.if_icmp .ge 22, 3) := by decide +kernel
theorem dJ2_indexOfCharUnsafe_4cfef_9 : decode cJ2_indexOfCharUnsafe_4cfef 9 = .ok (.aload_n 0, 1) := by decide +kernel
theorem dJ2_indexOfCharUnsafe_4cfef_10 : decode cJ2_indexOfCharUnsafe_4cfef 10 = .ok (.iload 4, 2) := by decide +kernel
theorem dJ2_indexOfCharUnsafe_4cfef_12 : decode cJ2_indexOfCharUnsafe_4cfef 12 = .ok (.invokestatic 71, 3) := by decide +kernel
theorem dJ2_indexOfCharUnsafe_4cfef_15 : decode cJ2_indexOfCharUnsafe_4cfef 15 = .ok (.iload_n 1, 1) := by decide +kernel
theorem dJ2_indexOfCharUnsafe_4cfef_16 : decode cJ2_indexOfCharUnsafe_4cfef 16 = .ok (.if_icmp .ne 6, 3) := by decide +kernel
theorem dJ2_indexOfCharUnsafe_4cfef_19 : decode cJ2_indexOfCharUnsafe_4cfef 19 = .ok (.iload 4, 2) := by decide +kernel
theorem dJ2_indexOfCharUnsafe_4cfef_21 : decode cJ2_indexOfCharUnsafe_4cfef 21 = .ok (.ireturn, 1) := by decide +kernel
theorem dJ2_indexOfCharUnsafe_4cfef_22 : decode cJ2_indexOfCharUnsafe_4cfef 22 = .ok (.iinc 4 1, 3) := by decide +kernel
theorem dJ2_indexOfCharUnsafe_4cfef_25 : decode cJ2_indexOfCharUnsafe_4cfef 25 = .ok (.goto (-22), 3) := by decide +kernel
theorem dJ2_indexOfCharUnsafe_4cfef_28 : decode cJ2_indexOfCharUnsafe_4cfef 28 = .ok (.iconst (-1), 1) := by decide +kernel
theorem dJ2_indexOfCharUnsafe_4cfef_29 : decode cJ2_indexOfCharUnsafe_4cfef 29 = .ok (.ireturn, 1) := by decide +kernel
set_option maxRecDepth 20000 in
theorem ggJ2_indexOfSupplementary_4cfef_J11_isValidCodePoint_9a6ad : GoodIn wsJ2_indexOfSupplementary_4cfef wsJ11_isValidCodePoint_9a6ad := goodIn_r _ [4] (by decide +kernel) (by decide +kernel)
set_option maxRecDepth 20000 in
theorem gJ2_indexOfSupplementary_4cfef_J11_isValidCodePoint_9a6ad : GoodIn wsJ2_indexOfSupplementary_4cfef (va_wsS RJ2 164 yJ11_isValidCodePoint_9a6ad wsJ11_isValidCodePoint_9a6ad) := goodIn_app (goodIn_of _ (by decide +kernel)) ggJ2_indexOfSupplementary_4cfef_J11_isValidCodePoint_9a6ad
set_option maxRecDepth 20000 in
theorem ggJ2_indexOfSupplementary_4cfef_J11_highSurrogate_5068e : GoodIn wsJ2_indexOfSupplementary_4cfef wsJ11_highSurrogate_5068e := goodIn_r _ [7, 8] (by decide +kernel) (by decide +kernel)
set_option maxRecDepth 20000 in
theorem gJ2_indexOfSupplementary_4cfef_J11_highSurrogate_5068e : GoodIn wsJ2_indexOfSupplementary_4cfef (va_wsS RJ2 157 yJ11_highSurrogate_5068e wsJ11_highSurrogate_5068e) := goodIn_app (goodIn_of _ (by decide +kernel)) ggJ2_indexOfSupplementary_4cfef_J11_highSurrogate_5068e
set_option maxRecDepth 20000 in
theorem ggJ2_indexOfSupplementary_4cfef_J11_lowSurrogate_5068e : GoodIn wsJ2_indexOfSupplementary_4cfef wsJ11_lowSurrogate_5068e := goodIn_r _ [11, 12] (by decide +kernel) (by decide +kernel)
set_option maxRecDepth 20000 in
theorem gJ2_indexOfSupplementary_4cfef_J11_lowSurrogate_5068e : GoodIn wsJ2_indexOfSupplementary_4cfef (va_wsS RJ2 161 yJ11_lowSurrogate_5068e wsJ11_lowSurrogate_5068e) := goodIn_app (goodIn_of _ (by decide +kernel)) ggJ2_indexOfSupplementary_4cfef_J11_lowSurrogate_5068e
set_option maxRecDepth 20000 in
theorem ggJ2_indexOfSupplementary_4cfef_J2_checkBoundsBeginEnd_d044e : GoodIn wsJ2_indexOfSupplementary_4cfef wsJ2_checkBoundsBeginEnd_d044e := goodIn_r _ [16, 17, 18, 15, 19, 20, 21, 22, 23, 24, 25, 26, 27, 28] (by decide +kernel) (by decide +kernel)
set_option maxRecDepth 20000 in
theorem gJ2_indexOfSupplementary_4cfef_J2_checkBoundsBeginEnd_d044e : GoodIn wsJ2_indexOfSupplementary_4cfef (va_wsS RJ2 96 yJ2_checkBoundsBeginEnd_d044e wsJ2_checkBoundsBeginEnd_d044e) := goodIn_app (goodIn_of _ (by decide +kernel)) ggJ2_indexOfSupplementary_4cfef_J2_checkBoundsBeginEnd_d044e
set_option maxRecDepth 20000 in
theorem ggJ2_indexOfSupplementary_4cfef_J2_getChar_3b067 : GoodIn wsJ2_indexOfSupplementary_4cfef wsJ2_getChar_3b067 := goodIn_r _ [31, 32, 33, 34, 17, 18, 15, 19] (by decide +kernel) (by decide +kernel)
set_option maxRecDepth 20000 in
theorem gJ2_indexOfSupplementary_4cfef_J2_getChar_3b067 : GoodIn wsJ2_indexOfSupplementary_4cfef (va_wsS RJ2 71 yJ2_getChar_3b067 wsJ2_getChar_3b067) := goodIn_app (goodIn_of _ (by decide +kernel)) ggJ2_indexOfSupplementary_4cfef_J2_getChar_3b067
theorem dJ2_indexOfSupplementary_4cfef_0 : decode cJ2_indexOfSupplementary_4cfef 0 = .ok (.iload_n 1, 1) := by decide +kernel
theorem dJ2_indexOfSupplementary_4cfef_1 : decode cJ2_indexOfSupplementary_4cfef 1 = .ok (.invokestatic 164, 3) := by decide +kernel
theorem dJ2_indexOfSupplementary_4cfef_4 : decode cJ2_indexOfSupplementary_4cfef 4 = .ok (.ifCond .eq 65, 3) := by decide +kernel
theorem dJ2_indexOfSupplementary_4cfef_7 : decode cJ2_indexOfSupplementary_4cfef 7 = .ok (.iload_n 1, 1) := by decide +kernel
theorem dJ2_indexOfSupplementary_4cfef_8 : decode cJ2_indexOfSupplementary_4cfef 8 = .ok (.invokestatic 157, 3) := by decide +kernel
theorem dJ2_indexOfSupplementary_4cfef_11 : decode cJ2_indexOfSupplementary_4cfef 11 = .ok (.istore 4, 2) := by decide +kernel
theorem dJ2_indexOfSupplementary_4cfef_13 : decode cJ2_indexOfSupplementary_4cfef 13 = .ok (.iload_n 1, 1) := by decide +kernel
theorem dJ2_indexOfSupplementary_4cfef_14 : decode cJ2_indexOfSupplementary_4cfef 14 = .ok (.invokestatic 161, 3) := by decide +kernel
theorem dJ2_indexOfSupplementary_4cfef_17 : decode cJ2_indexOfSupplementary_4cfef 17 = .ok (.istore 5, 2) := by decide +kernel
theorem dJ2_indexOfSupplementary_4cfef_19 : decode cJ2_indexOfSupplementary_4cfef 19 = .ok (.iload_n 2, 1) := by decide +kernel
theorem dJ2_indexOfSupplementary_4cfef_20 : decode cJ2_indexOfSupplementary_4cfef 20 = .ok (.iload_n 3, 1) := by decide +kernel
theorem dJ2_indexOfSupplementary_4cfef_21 : decode cJ2_indexOfSupplementary_4cfef 21 = .ok (.aload_n 0, 1) := by decide +kernel
theorem dJ2_indexOfSupplementary_4cfef_22 : decode cJ2_indexOfSupplementary_4cfef 22 = .ok (.invokestatic 96, 3) := by decide +kernel
theorem dJ2_indexOfSupplementary_4cfef_25 : decode cJ2_indexOfSupplementary_4cfef 25 = .ok (.iload_n 2, 1) := by decide +kernel
theorem dJ2_indexOfSupplementary_4cfef_26 : decode cJ2_indexOfSupplementary_4cfef 26 = .ok (.istore 6, 2) := by decide +kernel
theorem dJ2_indexOfSupplementary_4cfef_28 : decode cJ2_indexOfSupplementary_4cfef 28 = .ok (.iload 6, 2) := by decide +kernel
theorem dJ2_indexOfSupplementary_4cfef_30 : decode cJ2_indexOfSupplementary_4cfef 30 = .ok (.iload_n 3, 1) := by decide +kernel
theorem dJ2_indexOfSupplementary_4cfef_31 : decode cJ2_indexOfSupplementary_4cfef 31 = .ok (.iconst 1, 1) := by decide +kernel
theorem dJ2_indexOfSupplementary_4cfef_32 : decode cJ2_indexOfSupplementary_4cfef 32 = .ok (.isub, 1) := by decide +kernel
theorem dJ2_indexOfSupplementary_4cfef_33 : decode cJ2_indexOfSupplementary_4cfef 33 = .ok (.if_icmp .ge 36, 3) := by decide +kernel
theorem dJ2_indexOfSupplementary_4cfef_36 : decode cJ2_indexOfSupplementary_4cfef 36 = .ok (.aload_n 0, 1) := by decide +kernel
theorem dJ2_indexOfSupplementary_4cfef_37 : decode cJ2_indexOfSupplementary_4cfef 37 = .ok (.iload 6, 2) := by decide +kernel
theorem dJ2_indexOfSupplementary_4cfef_39 : decode cJ2_indexOfSupplementary_4cfef 39 = .ok (.invokestatic 71, 3) := by decide +kernel
theorem dJ2_indexOfSupplementary_4cfef_42 : decode cJ2_indexOfSupplementary_4cfef 42 = .ok (.iload 4, 2) := by decide +kernel
theorem dJ2_indexOfSupplementary_4cfef_44 : decode cJ2_indexOfSupplementary_4cfef 44 = .ok (.if_icmp .ne 19, 3) := by decide +kernel
theorem dJ2_indexOfSupplementary_4cfef_47 : decode cJ2_indexOfSupplementary_4cfef 47 = .ok (.aload_n 0, 1) := by decide +kernel
theorem dJ2_indexOfSupplementary_4cfef_48 : decode cJ2_indexOfSupplementary_4cfef 48 = .ok (.iload 6, 2) := by decide +kernel
theorem dJ2_indexOfSupplementary_4cfef_50 : decode cJ2_indexOfSupplementary_4cfef 50 = .ok (.iconst 1, 1) := by decide +kernel
theorem dJ2_indexOfSupplementary_4cfef_51 : decode cJ2_indexOfSupplementary_4cfef 51 = .ok (.iadd, 1) := by decide +kernel
theorem dJ2_indexOfSupplementary_4cfef_52 : decode cJ2_indexOfSupplementary_4cfef 52 = .ok (.invokestatic 71, 3) := by decide +kernel
theorem dJ2_indexOfSupplementary_4cfef_55 : decode cJ2_indexOfSupplementary_4cfef 55 = .ok (.iload 5, 2) := by decide +kernel
theorem dJ2_indexOfSupplementary_4cfef_57 : decode cJ2_indexOfSupplementary_4cfef 57 = .ok (.if_icmp .ne 6, 3) := by decide +kernel
theorem dJ2_indexOfSupplementary_4cfef_60 : decode cJ2_indexOfSupplementary_4cfef 60 = .ok (.iload 6, 2) := by decide +kernel
theorem dJ2_indexOfSupplementary_4cfef_62 : decode cJ2_indexOfSupplementary_4cfef 62 = .ok (.ireturn, 1) := by decide +kernel
theorem dJ2_indexOfSupplementary_4cfef_63 : decode cJ2_indexOfSupplementary_4cfef 63 = .ok (.iinc 6 1, 3) := by decide +kernel
theorem dJ2_indexOfSupplementary_4cfef_66 : decode cJ2_indexOfSupplementary_4cfef 66 = .ok (.goto (-38), 3) := by decide +kernel
theorem dJ2_indexOfSupplementary_4cfef_69 : decode cJ2_indexOfSupplementary_4cfef 69 = .ok (.iconst (-1), 1) := by decide +kernel
theorem dJ2_indexOfSupplementary_4cfef_70 : decode cJ2_indexOfSupplementary_4cfef 70 = .ok (.ireturn, 1) := by decide +kernel
set_option maxRecDepth 20000 in
theorem ggJ2_checkBoundsBeginEnd_d044e_J2_length_9d52b : GoodIn wsJ2_checkBoundsBeginEnd_d044e wsJ2_length_9d52b := goodIn_r _ [4] (by decide +kernel) (by decide +kernel)
set_option maxRecDepth 20000 in
theorem gJ2_checkBoundsBeginEnd_d044e_J2_length_9d52b : GoodIn wsJ2_checkBoundsBeginEnd_d044e (va_wsS RJ2 48 yJ2_length_9d52b wsJ2_length_9d52b) := goodIn_app (goodIn_of _ (by decide +kernel)) ggJ2_checkBoundsBeginEnd_d044e_J2_length_9d52b
set_option maxRecDepth 20000 in
theorem ggJ2_checkBoundsBeginEnd_d044e_J0_checkBoundsBeginEnd_23922 : GoodIn wsJ2_checkBoundsBeginEnd_d044e wsJ0_checkBoundsBeginEnd_23922 := goodIn_r _ [8, 9, 10, 11, 12, 13] (by decide +kernel) (by decide +kernel)
set_option maxRecDepth 20000 in
theorem gJ2_checkBoundsBeginEnd_d044e_J0_checkBoundsBeginEnd_23922 : GoodIn wsJ2_checkBoundsBeginEnd_d044e (va_wsS RJ2 241 yJ0_checkBoundsBeginEnd_23922 wsJ0_checkBoundsBeginEnd_23922) := goodIn_app (goodIn_of _ (by decide +kernel)) ggJ2_checkBoundsBeginEnd_d044e_J0_checkBoundsBeginEnd_23922
theorem dJ2_checkBoundsBeginEnd_d044e_0 : decode cJ2_checkBoundsBeginEnd_d044e 0 = .ok (.iload_n 0, 1) := by decide +kernel
theorem dJ2_checkBoundsBeginEnd_d044e_1 : decode cJ2_checkBoundsBeginEnd_d044e 1 = .ok (.iload_n 1, 1) := by decide +kernel
theorem dJ2_checkBoundsBeginEnd_d044e_2 : decode cJ2_checkBoundsBeginEnd_d044e 2 = .ok (.aload_n 2, 1) := by decide +kernel
theorem dJ2_checkBoundsBeginEnd_d044e_3 : decode cJ2_checkBoundsBeginEnd_d044e 3 = .ok (.invokestatic 48, 3) := by decide +kernel
theorem dJ2_checkBoundsBeginEnd_d044e_6 : decode cJ2_checkBoundsBeginEnd_d044e 6 = .ok (.invokestatic 241, 3) := by decide +kernel
theorem dJ2_checkBoundsBeginEnd_d044e_9 : decode cJ2_checkBoundsBeginEnd_d044e 9 = .ok (.return_, 1) := by decide +kernel
theorem dJ7_fill_53178_0 : decode cJ7_fill_53178 0 = .ok (.iconst 0, 1) := by decide +kernel
theorem dJ7_fill_53178_1 : decode cJ7_fill_53178 1 = .ok (.istore_n 2, 1) := by decide +kernel
theorem dJ7_fill_53178_2 : decode cJ7_fill_53178 2 = .ok (.aload_n 0, 1) := by decide +kernel
theorem dJ7_fill_53178_3 : decode cJ7_fill_53178 3 = .ok (.arraylength, 1) := by decide +kernel
theorem dJ7_fill_53178_4 : decode cJ7_fill_53178 4 = .ok (.istore_n 3, 1) := by decide +kernel
theorem dJ7_fill_53178_5 : decode cJ7_fill_53178 5 = .ok (.iload_n 2, 1) := by decide +kernel
theorem dJ7_fill_53178_6 : decode cJ7_fill_53178 6 = .ok (.iload_n 3, 1) := by decide +kernel
theorem dJ7_fill_53178_7 : decode cJ7_fill_53178 7 = .ok (.if_icmp .ge 13, 3) := by decide +kernel
theorem dJ7_fill_53178_10 : decode cJ7_fill_53178 10 = .ok (.aload_n 0, 1) := by decide +kernel
theorem dJ7_fill_53178_11 : decode cJ7_fill_53178 11 = .ok (.iload_n 2, 1) := by decide +kernel
theorem dJ7_fill_53178_12 : decode cJ7_fill_53178 12 = .ok (.iload_n 1, 1) := by decide +kernel
theorem dJ7_fill_53178_13 : decode cJ7_fill_53178 13 = .ok (.iastore, 1) := by decide +kernel
theorem dJ7_fill_53178_14 : decode cJ7_fill_53178 14 = .ok (.iinc 2 1, 3) := by decide +kernel
theorem dJ7_fill_53178_17 : decode cJ7_fill_53178 17 = .ok (.goto (-12), 3) := by decide +kernel
theorem dJ7_fill_53178_20 : decode cJ7_fill_53178 20 = .ok (.return_, 1) := by decide +kernel
theorem dJ3_checkFromToIndex_8c36e_0 : decode cJ3_checkFromToIndex_8c36e 0 = .ok (.iload_n 0, 1) := by decide +kernel
theorem dJ3_checkFromToIndex_8c36e_1 : decode cJ3_checkFromToIndex_8c36e 1 = .ok (.ifCond .lt 13, 3) := by decide +kernel
theorem dJ3_checkFromToIndex_8c36e_4 : decode cJ3_checkFromToIndex_8c36e 4 = .ok (.iload_n 0, 1) := by decide +kernel
theorem dJ3_checkFromToIndex_8c36e_5 : decode cJ3_checkFromToIndex_8c36e 5 = .ok (.iload_n 1, 1) := by decide +kernel
theorem dJ3_checkFromToIndex_8c36e_6 : decode cJ3_checkFromToIndex_8c36e 6 = .ok (.if_icmp .gt 8, 3) := by decide +kernel
theorem dJ3_checkFromToIndex_8c36e_9 : decode cJ3_checkFromToIndex_8c36e 9 = .ok (.iload_n 1, 1) := by decide +kernel
theorem dJ3_checkFromToIndex_8c36e_10 : decode cJ3_checkFromToIndex_8c36e 10 = .ok (.iload_n 2, 1) := by decide +kernel
theorem dJ3_checkFromToIndex_8c36e_11 : decode cJ3_checkFromToIndex_8c36e 11 = .ok (.if_icmp .le 11, 3) := by decide +kernel
theorem dJ3_checkFromToIndex_8c36e_14 : decode cJ3_checkFromToIndex_8c36e 14 = .ok (.aload_n 3, 1) := by decide +kernel
theorem dJ3_checkFromToIndex_8c36e_15 : decode cJ3_checkFromToIndex_8c36e 15 = .ok (.iload_n 0, 1) := by decide +kernel
theorem dJ3_checkFromToIndex_8c36e_16 : decode cJ3_checkFromToIndex_8c36e 16 = .ok (.iload_n 1, 1) := by decide +kernel
theorem dJ3_checkFromToIndex_8c36e_17 : decode cJ3_checkFromToIndex_8c36e 17 = .ok (.iload_n 2, 1) := by decide +kernel
theorem dJ3_checkFromToIndex_8c36e_18 : decode cJ3_checkFromToIndex_8c36e 18 = .ok (.invokestatic 99, 3) := by decide +kernel
theorem dJ3_checkFromToIndex_8c36e_21 : decode cJ3_checkFromToIndex_8c36e 21 = .ok (.athrow, 1) := by decide +kernel
theorem dJ3_checkFromToIndex_8c36e_22 : decode cJ3_checkFromToIndex_8c36e 22 = .ok (.iload_n 0, 1) := by decide +kernel
theorem dJ3_checkFromToIndex_8c36e_23 : decode cJ3_checkFromToIndex_8c36e 23 = .ok (.ireturn, 1) := by decide +kernel
abbrev vwCl : List vw_C := [(RX0, TX0, 9), (RX1, TX1, 3), (RX2, TX2, 5), (RX3, TX3, 6), (RX4, TX4, 3), (RX5, TX5, 8), (RX6, TX6, 22)]
end
section
/-! BASE: the room by levels, the environment of every contract, rows for calls (read-only and writing), array rows by natural places -/
def zr (d : Nat) : Room := { frames := d, cells := 0, slots := 0, locals := 40 * d }
def zb (P : Prop) [Decidable P] : Int32 := if P then 1 else 0
theorem zb_t {P : Prop} [Decidable P] (h : P) : zb P = 1 := if_pos h
theorem zb_f {P : Prop} [Decidable P] (h : ¬ P) : zb P = 0 := if_neg h
theorem zb_0 {P : Prop} [Decidable P] (h : zb P = 0) : ¬ P := fun q => by
  rw [zb_t q] at h
  exact absurd h (by decide)
theorem zb_1 {P : Prop} [Decidable P] (h : ¬ zb P = 0) : P := by
  by_cases q : P
  · exact q
  · exact absurd (zb_f q) h
theorem zb_nar {P : Prop} [Decidable P] : narrow .boolean (.int (zb P)) = .int (zb P) := by
  by_cases q : P
  · rw [zb_t q]; rfl
  · rw [zb_f q]; rfl
theorem zb_fit {P : Prop} [Decidable P] : fits .boolean (.int (zb P)) = true := by
  by_cases q : P
  · rw [zb_t q]; rfl
  · rw [zb_f q]; rfl
theorem zb_c {P Q : Prop} [Decidable P] [Decidable Q] (h : P ↔ Q) : zb P = zb Q := by
  by_cases q : P
  · rw [zb_t q, zb_t (h.mp q)]
  · rw [zb_f q, zb_f (fun z => q (h.mpr z))]
abbrev zty (cI cZ cA : ClassId) : List (ClassId × FieldType) := [(cI, .int), (cZ, .boolean), (cA, .array .int)]
/-- the links to members of nest mates -/
def zNw (U : State) : Prop := va_Nw (.methodLinkNest RX5 9 yX4_init RX5) U ∧ va_Nw (.methodLinkNest RX5 18 yX2_init RX5) U ∧ va_Nw (.methodLinkNest RX5 35 yX3_init RX5) U ∧ va_Nw (.methodLinkNest RX5 42 yX1_init RX5) U ∧ va_Nw (.methodLinkNest RX2 57 yX5_yearsKeptBy RX5) U ∧ va_Nw (.methodLinkNest RX2 61 yX5_isOfKind RX5) U ∧ va_Nw (.methodLinkNest RX1 47 yX5_sum RX5) U
theorem zNw.warm {s U : State} (hW : s.WarmedH U.vm) (h : zNw s) : zNw U := ⟨va_Nw.warmM hW h.1, va_Nw.warmM hW h.2.1, va_Nw.warmM hW h.2.2.1, va_Nw.warmM hW h.2.2.2.1, va_Nw.warmM hW h.2.2.2.2.1, va_Nw.warmM hW h.2.2.2.2.2.1, va_Nw.warmM hW h.2.2.2.2.2.2⟩
theorem zNw.same {s U : State} (hv : s.vm = U.vm) (h : zNw s) : zNw U := ⟨va_Nw.same rfl hv h.1, va_Nw.same rfl hv h.2.1, va_Nw.same rfl hv h.2.2.1, va_Nw.same rfl hv h.2.2.2.1, va_Nw.same rfl hv h.2.2.2.2.1, va_Nw.same rfl hv h.2.2.2.2.2.1, va_Nw.same rfl hv h.2.2.2.2.2.2⟩
/-- the environment: classes, array classes, nest links -/
def zE (D : va_G) (cI cZ cA : ClassId) (U : State) : Prop := va_K D vwCl (zty cI cZ cA) U ∧ zNw U
theorem zE.warm {D : va_G} {cI cZ cA : ClassId} {s U : State} (hW : s.WarmedH U.vm) (h : zE D cI cZ cA s) : zE D cI cZ cA U := ⟨va_K.moved hW.alike h.1, h.2.warm hW⟩
theorem zE.call {D : va_G} {cI cZ cA : ClassId} {U : State} {g : JFrame} {mk : MethodId} {a : Array Value} (h : zE D cI cZ cA U) : zE D cI cZ cA (U.calling g mk a) := ⟨va_K.moved (u := U) (U := U.calling g mk a) (Vm.Alike.refl U.vm) h.1, zNw.same (s := U) (U := U.calling g mk a) rfl h.2⟩
/-- a read-only method's start -/
def zPr (D : va_G) (cI cZ cA : ClassId) (ws : va_W) (U : State) : Prop := va_P D vwCl ws U.heap ∧ zE D cI cZ cA U
/-- a writing method's start -/
def zPw (D : va_G) (cI cZ cA : ClassId) (ws : va_W) (sz : Nat) (U : State) : Prop := U.heap.size = sz ∧ va_P D vwCl ws U.heap ∧ va_D (fun _ => True) ws ∧ zE D cI cZ cA U
theorem zPr.blind {D : va_G} {cI cZ cA : ClassId} {ws : va_W} {av : List Value} : FrameBlind (va_Pc av (zPr D cI cZ cA ws)) := fun a U g mk q => ⟨q.1, q.2.1, q.2.2.call⟩
theorem zPw.blind {D : va_G} {cI cZ cA : ClassId} {ws : va_W} {sz : Nat} {av : List Value} : FrameBlind (va_Pc av (zPw D cI cZ cA ws sz)) := fun a U g mk q => ⟨q.1, q.2.1, q.2.2.1, q.2.2.2.1, q.2.2.2.2.call⟩
/-- a writing method's end -/
def zB (D : va_G) (ws' : va_W) (A : Nat → Prop) : Unit → State → Prop := fun _ t => va_P D vwCl ws' t.heap ∧ va_D A ws'
theorem za_i {a : Nat} {i : Int32} {n : Nat} (hi : i = nI a) (ha : a < n) (hn : n < 2 ^ 31) : vp_in i n ∧ i.toNatClampNeg = a := by
  subst hi
  exact ⟨vp_in_nI ha hn, nI_clamp (by omega)⟩
theorem z_add {x y : Int32} {a b : Nat} (hx : x = nI a) (hy : y = nI b) : x + y = nI (a + b) := by rw [hx, hy, nI_add]
theorem z_mul {x y : Int32} {a b : Nat} (hx : x = nI a) (hy : y = nI b) : x * y = nI (a * b) := by rw [hx, hy, pk_mul]
theorem z_sub {x y : Int32} {a b : Nat} (hx : x = nI a) (hy : y = nI b) (h : b ≤ a) : x - y = nI (a - b) := by rw [hx, hy, pk_sub h]
theorem zn_le {x y : Int32} {a b : Nat} (hx : x = nI a) (hy : y = nI b) (h : x ≤ y) (ha : a < 2 ^ 31) (hb : b < 2 ^ 31) : a ≤ b := (nI_leI ha hb).mp (by rw [← hx, ← hy]; exact h)
theorem zn_nle {x y : Int32} {a b : Nat} (hx : x = nI a) (hy : y = nI b) (h : ¬ x ≤ y) (ha : a < 2 ^ 31) (hb : b < 2 ^ 31) : b < a := Nat.lt_of_not_le (fun q => h (by rw [hx, hy]; exact (nI_leI ha hb).mpr q))
theorem zn_lt {x y : Int32} {a b : Nat} (hx : x = nI a) (hy : y = nI b) (h : x < y) (ha : a < 2 ^ 31) (hb : b < 2 ^ 31) : a < b := (nI_ltI ha hb).mp (by rw [← hx, ← hy]; exact h)
theorem zn_nlt {x y : Int32} {a b : Nat} (hx : x = nI a) (hy : y = nI b) (h : ¬ x < y) (ha : a < 2 ^ 31) (hb : b < 2 ^ 31) : b ≤ a := Nat.le_of_not_lt (fun q => h (by rw [hx, hy]; exact (nI_ltI ha hb).mpr q))
theorem zn_eq {x y : Int32} {a b : Nat} (hx : x = nI a) (hy : y = nI b) (h : x = y) (ha : a < 2 ^ 31) (hb : b < 2 ^ 31) : a = b := (nI_eq ha hb).mp (by rw [← hx, ← hy]; exact h)
theorem zn_ne {x y : Int32} {a b : Nat} (hx : x = nI a) (hy : y = nI b) (h : ¬ x = y) (ha : a < 2 ^ 31) (hb : b < 2 ^ 31) : a ≠ b := fun q => h (by rw [hx, hy, q])
theorem z_ix {k : Int32} {K : Nat} (h : ¬ k < 0 ∧ k < nI K) (hK : K < 2 ^ 31) : ∃ j : Nat, j < K ∧ k = nI j := by
  obtain ⟨j, hj, rfl⟩ := nI_of h.1
  exact ⟨j, (nI_ltI hj hK).mp h.2, rfl⟩
theorem z_ixn {j K : Nat} (h : j < K) (hK : K < 2 ^ 31) : ¬ nI j < 0 ∧ nI j < nI K := ⟨nI_pos (by omega), (nI_ltI (by omega) hK).mpr h⟩
theorem zl_eq {x y : Int64} (h : lg_cmp x y = 0) : x = y := by
  unfold lg_cmp at h
  by_cases q : x > y
  · rw [if_pos q] at h; exact absurd h (by decide)
  · rw [if_neg q] at h
    by_cases q2 : x = y
    · exact q2
    · rw [if_neg q2] at h; exact absurd h (by decide)
theorem zl_ne {x y : Int64} (h : ¬ lg_cmp x y = 0) : ¬ x = y := fun q => h (by
  subst q
  simp [lg_cmp])
theorem zsw {x : Int32} {n : Nat} (h : ∀ j : Nat, j ≤ n → ¬ x = nI j) (hn : n < 2 ^ 30) : x.toInt < 0 ∨ (n : Int) < x.toInt := by
  rcases pk_ix x (n := n + 1) (by omega) with q | q | ⟨j, hj, e⟩
  · left
    simpa using Int32.lt_iff_toInt_lt.mp q
  · right
    have h1 := Int32.le_iff_toInt_le.mp q
    rw [nI_toInt (by omega)] at h1
    omega
  · exact absurd e (h j (by omega))
section ZROWS
variable {p : Program} {l : Launch} {e : Env} {R : Room} {s : State} {m : MethodId} {args : Array Value} {below : List Frame} {meth : Method} {c : Code} {H : Heap} {locs : List Loc} {cells slots : Nat} {Q : State → Prop}
variable {cc bytes : ByteArray} {pc nL maxL n index : Nat} {ls : Array Slot} {rest As st0 : List Value} {D : va_G} {cI cZ cA : ClassId} {A : Nat → Prop} {a b : Nat} {ws wc wr w1 : va_W} {H0 : Heap} {Ts wsY ws' : List Cond} {own C host : String} {y : MethodName} {ret : Option FieldType} {rm : Room}
theorem z_iald (hexec : p.tables.exec = Jvm.exec) (hb : c.code = cc) (hE : zE D cI cZ cA s) (hP : va_P D vwCl ws H) (q0 : Nat) {N : Nat} {f : Nat → Int32} (ha : ws[q0]? = some (a, .inl (cI, N, .inl f))) {i : Int32} {j : Nat} (hi : i = nI j) (hj : j < N) (hN : N < 2 ^ 31) (hdg : decode cc pc = .ok (.iaload, 1))
    (kk : W p l e R s m args below meth c H locs cells slots Q (F0 m (pc + 1) ls (.int (f j) :: rest))) : W p l e R s m args below meth c H locs cells slots Q (F0 m pc ls (.int i :: .ref a :: rest)) := by
  obtain ⟨h1, h2⟩ := za_i hi hj hN
  exact va_iald hexec hb hE.1 hP q0 0 ha rfl h1 hdg (by rw [h2]; exact kk)
theorem z_zald (hexec : p.tables.exec = Jvm.exec) (hb : c.code = cc) (hE : zE D cI cZ cA s) (hP : va_P D vwCl ws H) (q0 : Nat) {N : Nat} {f : Nat → Int32} (ha : ws[q0]? = some (a, .inl (cZ, N, .inl f))) {i : Int32} {j : Nat} (hi : i = nI j) (hj : j < N) (hN : N < 2 ^ 31) (hdg : decode cc pc = .ok (.baload, 1))
    (kk : W p l e R s m args below meth c H locs cells slots Q (F0 m (pc + 1) ls (.int (f j) :: rest))) : W p l e R s m args below meth c H locs cells slots Q (F0 m pc ls (.int i :: .ref a :: rest)) := by
  obtain ⟨h1, h2⟩ := za_i hi hj hN
  exact va_zald hexec hb hE.1 hP q0 1 ha rfl h1 hdg (by rw [h2]; exact kk)
theorem z_aald (hexec : p.tables.exec = Jvm.exec) (hb : c.code = cc) (hE : zE D cI cZ cA s) (hP : va_P D vwCl ws H) (q0 : Nat) {N : Nat} {f : Nat → Option Nat} (ha : ws[q0]? = some (a, .inl (cA, N, .inr (.inr (.inr (.inr f)))))) {i : Int32} {j : Nat} (hi : i = nI j) (hj : j < N) (hN : N < 2 ^ 31) {v : Nat} (hv : f j = some v) (hdg : decode cc pc = .ok (.aaload, 1))
    (kk : W p l e R s m args below meth c H locs cells slots Q (F0 m (pc + 1) ls (.ref v :: rest))) : W p l e R s m args below meth c H locs cells slots Q (F0 m pc ls (.int i :: .ref a :: rest)) := by
  obtain ⟨h1, h2⟩ := za_i hi hj hN
  have hlt : i.toNatClampNeg < N := by rw [h2]; exact hj
  exact W.aald (v := va_rf (f i.toNatClampNeg)) (ty := .array .int) hexec hb (hP q0 _ ha) ((hE.1.2 2 _ rfl).1 N (fun j => va_rf (f j))) rfl (fun q => by cases q) (by show ¬ (i < 0 ∨ (arrV _ _ _).slots.size ≤ _); rw [arrV_size]; exact h1) (by show (arrV _ _ _).slots[_]? = _; rw [arrV_read _ _ hlt]) rfl rfl hdg (by rw [h2, hv]; exact kk)
theorem z_alen (hexec : p.tables.exec = Jvm.exec) (hb : c.code = cc) (hE : zE D cI cZ cA s) (hP : va_P D vwCl ws H) (q0 : Nat) {N : Nat} {f : Nat → Int32} (ha : ws[q0]? = some (a, .inl (cI, N, .inl f))) (hdg : decode cc pc = .ok (.arraylength, 1))
    (kk : W p l e R s m args below meth c H locs cells slots Q (F0 m (pc + 1) ls (.int (nI N) :: rest))) : W p l e R s m args below meth c H locs cells slots Q (F0 m pc ls (.ref a :: rest)) :=
  va_alen hexec hb hE.1 hP q0 0 ha (ty := .int) rfl rfl hdg kk
theorem z_iast (hexec : p.tables.exec = Jvm.exec) (hb : c.code = cc) (hE : zE D cI cZ cA s) (hP : va_P D vwCl ws H) (hD : va_D A ws) (hS : va_S A H0 H locs) (q0 : Nat) {N : Nat} {f : Nat → Int32} (ha : ws[q0]? = some (a, .inl (cI, N, .inl f))) {i x : Int32} {j : Nat} (hi : i = nI j) (hj : j < N) (hN : N < 2 ^ 31) (hdg : decode cc pc = .ok (.iastore, 1))
    (kk : ∀ (H1 : Heap) (locs1 : List Loc), va_P D vwCl (ws.set q0 (a, .inl (cI, N, .inl (upd f j x)))) H1 → va_D A (ws.set q0 (a, .inl (cI, N, .inl (upd f j x)))) → va_S A H0 H1 locs1 → W p l e R s m args below meth c H1 locs1 cells slots Q (F0 m (pc + 1) ls rest)) : W p l e R s m args below meth c H locs cells slots Q (F0 m pc ls (.int x :: .int i :: .ref a :: rest)) := by
  obtain ⟨h1, h2⟩ := za_i hi hj hN
  exact va_iast hexec hb hE.1 hP hD hS q0 0 ha rfl h1 hdg (by rw [h2]; exact kk)
theorem z_zast (hexec : p.tables.exec = Jvm.exec) (hb : c.code = cc) (hE : zE D cI cZ cA s) (hP : va_P D vwCl ws H) (hD : va_D A ws) (hS : va_S A H0 H locs) (q0 : Nat) {N : Nat} {f : Nat → Int32} (ha : ws[q0]? = some (a, .inl (cZ, N, .inl f))) {i x : Int32} {j : Nat} (hi : i = nI j) (hj : j < N) (hN : N < 2 ^ 31) (hx : vp_nar .boolean x = x) (hdg : decode cc pc = .ok (.bastore, 1))
    (kk : ∀ (H1 : Heap) (locs1 : List Loc), va_P D vwCl (ws.set q0 (a, .inl (cZ, N, .inl (upd f j x)))) H1 → va_D A (ws.set q0 (a, .inl (cZ, N, .inl (upd f j x)))) → va_S A H0 H1 locs1 → W p l e R s m args below meth c H1 locs1 cells slots Q (F0 m (pc + 1) ls rest)) : W p l e R s m args below meth c H locs cells slots Q (F0 m pc ls (.int x :: .int i :: .ref a :: rest)) := by
  obtain ⟨h1, h2⟩ := za_i hi hj hN
  exact va_zast hexec hb hE.1 hP hD hS q0 1 ha rfl h1 hdg (by rw [h2, hx]; exact kk)
/-- read-only calls -/
theorem z_roVi {v : Int32} (S : CallFix p m c cc nL s args Ts own) (hM : Met l y wsY rm (va_Pc (.ref b :: As) (zPr D cI cZ cA wc)) (vp_Si (fun r => r = v)) 0 0 (fun _ => False)) (cw : CallW R s args own C index y bytes maxL ret wsY rm 0 0 n) (hE : zE D cI cZ cA s) (hP : va_P D vwCl ws H) (is : List Nat) (hs : is.filterMap (fun i => ws[i]?) = wc) (q0 ci : Nat) {T : u_T} {N : Nat} {fs : List Value} (hc : vwCl[ci]? = some (C, T, N)) (hq : wc[q0]? = some (b, .inr (ci, fs)))
    (hn : As.length = n) (hsize : ls.size = nL) (hst : st0 = As.reverse ++ .ref b :: rest) (hW : (rest.map fun v => v.category).sum ≤ 8) (hdg : decode cc pc = .ok (.invokevirtual index, 3)) (hf : cells + 0 ≤ R.cells ∧ slots + 0 ≤ R.slots)
    (kk : W p l e R s m args below meth c H locs cells slots Q (F0 m (pc + 3) ls (.int v :: rest))) : W p l e R s m args below meth c H locs cells slots Q (F0 m pc ls st0) := by
  have hPc := hP.sub is hs
  exact vp_callSi (va_Run.run (va_runV S hM cw ⟨zPr.blind, va_recv hE.1 hPc hc hq, fun U hU hWm => ⟨rfl, by rw [hU]; exact hPc, hE.warm hWm⟩⟩ rfl hn hsize hst (lv_room (m := m) (pc := pc) (ls := ls) (rest := rest) hW) hdg hf)) (fun r hr => by rw [hr]; exact kk)
theorem z_roVl {v : Int64} (S : CallFix p m c cc nL s args Ts own) (hM : Met l y wsY rm (va_Pc (.ref b :: As) (zPr D cI cZ cA wc)) (vp_Sl (fun r => r = v)) 0 0 (fun _ => False)) (cw : CallW R s args own C index y bytes maxL ret wsY rm 0 0 n) (hE : zE D cI cZ cA s) (hP : va_P D vwCl ws H) (is : List Nat) (hs : is.filterMap (fun i => ws[i]?) = wc) (q0 ci : Nat) {T : u_T} {N : Nat} {fs : List Value} (hc : vwCl[ci]? = some (C, T, N)) (hq : wc[q0]? = some (b, .inr (ci, fs)))
    (hn : As.length = n) (hsize : ls.size = nL) (hst : st0 = As.reverse ++ .ref b :: rest) (hW : (rest.map fun v => v.category).sum ≤ 8) (hdg : decode cc pc = .ok (.invokevirtual index, 3)) (hf : cells + 0 ≤ R.cells ∧ slots + 0 ≤ R.slots)
    (kk : W p l e R s m args below meth c H locs cells slots Q (F0 m (pc + 3) ls (.long v :: rest))) : W p l e R s m args below meth c H locs cells slots Q (F0 m pc ls st0) := by
  have hPc := hP.sub is hs
  exact vp_callSl (va_Run.run (va_runV S hM cw ⟨zPr.blind, va_recv hE.1 hPc hc hq, fun U hU hWm => ⟨rfl, by rw [hU]; exact hPc, hE.warm hWm⟩⟩ rfl hn hsize hst (lv_room (m := m) (pc := pc) (ls := ls) (rest := rest) hW) hdg hf)) (fun r hr => by rw [hr]; exact kk)
theorem z_roSi {v : Int32} (S : CallFix p m c cc nL s args Ts own) (hM : Met l y wsY rm (va_Pc As (zPr D cI cZ cA wc)) (vp_Si (fun r => r = v)) 0 0 (fun _ => False)) (cw : CallB R s args own index y bytes maxL ret wsY rm 0 0 n ∧ (Cond.static y).before args s = true) (hE : zE D cI cZ cA s) (hP : va_P D vwCl ws H) (is : List Nat) (hs : is.filterMap (fun i => ws[i]?) = wc)
    (hn : As.length = n) (hsize : ls.size = nL) (hst : st0 = As.reverse ++ rest) (hW : (rest.map fun v => v.category).sum ≤ 8) (hdg : decode cc pc = .ok (.invokestatic index, 3)) (hf : cells + 0 ≤ R.cells ∧ slots + 0 ≤ R.slots)
    (kk : W p l e R s m args below meth c H locs cells slots Q (F0 m (pc + 3) ls (.int v :: rest))) : W p l e R s m args below meth c H locs cells slots Q (F0 m pc ls st0) := by
  have hPc := hP.sub is hs
  exact vp_callSi (va_Run.run (va_runS S hM cw ⟨zPr.blind, fun U hU hWm => ⟨rfl, by rw [hU]; exact hPc, hE.warm hWm⟩⟩ rfl hn hsize hst (lv_room (m := m) (pc := pc) (ls := ls) (rest := rest) hW) hdg hf)) (fun r hr => by rw [hr]; exact kk)
theorem z_roSl {v : Int64} (S : CallFix p m c cc nL s args Ts own) (hM : Met l y wsY rm (va_Pc As (zPr D cI cZ cA wc)) (vp_Sl (fun r => r = v)) 0 0 (fun _ => False)) (cw : CallB R s args own index y bytes maxL ret wsY rm 0 0 n ∧ (Cond.static y).before args s = true) (hE : zE D cI cZ cA s) (hP : va_P D vwCl ws H) (is : List Nat) (hs : is.filterMap (fun i => ws[i]?) = wc)
    (hn : As.length = n) (hsize : ls.size = nL) (hst : st0 = As.reverse ++ rest) (hW : (rest.map fun v => v.category).sum ≤ 8) (hdg : decode cc pc = .ok (.invokestatic index, 3)) (hf : cells + 0 ≤ R.cells ∧ slots + 0 ≤ R.slots)
    (kk : W p l e R s m args below meth c H locs cells slots Q (F0 m (pc + 3) ls (.long v :: rest))) : W p l e R s m args below meth c H locs cells slots Q (F0 m pc ls st0) := by
  have hPc := hP.sub is hs
  exact vp_callSl (va_Run.run (va_runS S hM cw ⟨zPr.blind, fun U hU hWm => ⟨rfl, by rw [hU]; exact hPc, hE.warm hWm⟩⟩ rfl hn hsize hst (lv_room (m := m) (pc := pc) (ls := ls) (rest := rest) hW) hdg hf)) (fun r hr => by rw [hr]; exact kk)
theorem z_roNi {v : Int32} (S : CallFix p m c cc nL s args Ts own) (hM : Met l y wsY rm (va_Pc As (zPr D cI cZ cA wc)) (vp_Si (fun r => r = v)) 0 0 (fun _ => False)) (cw : va_CN R s args own index y host bytes maxL ret wsY rm 0 0 n ∧ (Cond.static y).before args s = true ∧ True) (hE : zE D cI cZ cA s) (hP : va_P D vwCl ws H) (is : List Nat) (hs : is.filterMap (fun i => ws[i]?) = wc)
    (hn : As.length = n) (hsize : ls.size = nL) (hst : st0 = As.reverse ++ rest) (hW : (rest.map fun v => v.category).sum ≤ 8) (hdg : decode cc pc = .ok (.invokestatic index, 3)) (hf : cells + 0 ≤ R.cells ∧ slots + 0 ≤ R.slots)
    (kk : W p l e R s m args below meth c H locs cells slots Q (F0 m (pc + 3) ls (.int v :: rest))) : W p l e R s m args below meth c H locs cells slots Q (F0 m pc ls st0) := by
  have hPc := hP.sub is hs
  exact vp_callSi (va_Run.run (va_runSN S hM cw ⟨zPr.blind, fun U hU hWm => ⟨rfl, by rw [hU]; exact hPc, hE.warm hWm⟩⟩ rfl hn hsize hst (lv_room (m := m) (pc := pc) (ls := ls) (rest := rest) hW) hdg hf)) (fun r hr => by rw [hr]; exact kk)
/-- writing calls -/
theorem z_rwVi {v : Int32} (S : CallFix p m c cc nL s args Ts own) (hM : Met l y wsY rm (va_Pc (.ref b :: As) (zPw D cI cZ cA wc H.size)) (va_Qi (fun (r : Int32) (_ : Unit) => r = v) (zB D w1 (va_A wc H.size)) (va_A wc H.size)) 0 0 (va_A wc H.size)) (cw : CallW R s args own C index y bytes maxL ret wsY rm 0 0 n) (hE : zE D cI cZ cA s) (hP : va_P D vwCl ws H) (hD : va_D A ws) (hS : va_S A H0 H locs) (hA : ∀ q, H0.size ≤ q → A q) (is js : List Nat) (hi : is.filterMap (fun i => ws[i]?) = wc) (hs : is.map (fun i => ws[i]?) = wc.map some) (hr : js.map (fun i => ws[i]?) = wr.map some) (hni : va_nd is = true) (hnj : va_nd js = true) (hij : ∀ i ∈ js, i ∉ is) (q0 ci : Nat) {T : u_T} {N : Nat} {fs : List Value} (hc : vwCl[ci]? = some (C, T, N)) (hq : wc[q0]? = some (b, .inr (ci, fs)))
    (hn : As.length = n) (hsize : ls.size = nL) (hst : st0 = As.reverse ++ .ref b :: rest) (hW : (rest.map fun v => v.category).sum ≤ 8) (hdg : decode cc pc = .ok (.invokevirtual index, 3)) (hf : cells + 0 ≤ R.cells ∧ slots + 0 ≤ R.slots)
    (kk : ∀ (H1 : Heap) (locs1 : List Loc), va_P D vwCl (wr ++ w1) H1 → va_D A (wr ++ w1) → va_S A H0 H1 locs1 → W p l e R s m args below meth c H1 locs1 cells slots Q (F0 m (pc + 3) ls (.int v :: rest))) : W p l e R s m args below meth c H locs cells slots Q (F0 m pc ls st0) := by
  have hPc := hP.sub is hi
  have hDc := hD.sub is hni hs
  have hFc := va_free hD hS hA is hs
  refine va_calli (va_runV S hM cw ⟨zPw.blind, va_recv hE.1 hPc hc hq, fun U hU hWm => ⟨rfl, by rw [hU], by rw [hU]; exact hPc, hDc.weaken (fun _ _ _ _ => trivial), hE.warm hWm⟩⟩ rfl hn hsize hst (lv_room (m := m) (pc := pc) (ls := ls) (rest := rest) hW) hdg hf) hS (fun q _ h => hFc q h) hFc (fun r u t H1 locs1 ht hvm hw hB hz1 hk1 hS1 => ?_)
  obtain ⟨hP1, hD1⟩ := hB
  rw [ht] at hP1
  obtain ⟨hP2, hD2⟩ := va_join hP hD is js hs hr hnj hij hk1 hFc hP1 hD1
  rw [hw]
  exact kk H1 locs1 hP2 hD2 hS1
theorem z_rwVl {v : Int64} (S : CallFix p m c cc nL s args Ts own) (hM : Met l y wsY rm (va_Pc (.ref b :: As) (zPw D cI cZ cA wc H.size)) (va_Ql (fun (r : Int64) (_ : Unit) => r = v) (zB D w1 (va_A wc H.size)) (va_A wc H.size)) 0 0 (va_A wc H.size)) (cw : CallW R s args own C index y bytes maxL ret wsY rm 0 0 n) (hE : zE D cI cZ cA s) (hP : va_P D vwCl ws H) (hD : va_D A ws) (hS : va_S A H0 H locs) (hA : ∀ q, H0.size ≤ q → A q) (is js : List Nat) (hi : is.filterMap (fun i => ws[i]?) = wc) (hs : is.map (fun i => ws[i]?) = wc.map some) (hr : js.map (fun i => ws[i]?) = wr.map some) (hni : va_nd is = true) (hnj : va_nd js = true) (hij : ∀ i ∈ js, i ∉ is) (q0 ci : Nat) {T : u_T} {N : Nat} {fs : List Value} (hc : vwCl[ci]? = some (C, T, N)) (hq : wc[q0]? = some (b, .inr (ci, fs)))
    (hn : As.length = n) (hsize : ls.size = nL) (hst : st0 = As.reverse ++ .ref b :: rest) (hW : (rest.map fun v => v.category).sum ≤ 8) (hdg : decode cc pc = .ok (.invokevirtual index, 3)) (hf : cells + 0 ≤ R.cells ∧ slots + 0 ≤ R.slots)
    (kk : ∀ (H1 : Heap) (locs1 : List Loc), va_P D vwCl (wr ++ w1) H1 → va_D A (wr ++ w1) → va_S A H0 H1 locs1 → W p l e R s m args below meth c H1 locs1 cells slots Q (F0 m (pc + 3) ls (.long v :: rest))) : W p l e R s m args below meth c H locs cells slots Q (F0 m pc ls st0) := by
  have hPc := hP.sub is hi
  have hDc := hD.sub is hni hs
  have hFc := va_free hD hS hA is hs
  refine va_calll (va_runV S hM cw ⟨zPw.blind, va_recv hE.1 hPc hc hq, fun U hU hWm => ⟨rfl, by rw [hU], by rw [hU]; exact hPc, hDc.weaken (fun _ _ _ _ => trivial), hE.warm hWm⟩⟩ rfl hn hsize hst (lv_room (m := m) (pc := pc) (ls := ls) (rest := rest) hW) hdg hf) hS (fun q _ h => hFc q h) hFc (fun r u t H1 locs1 ht hvm hw hB hz1 hk1 hS1 => ?_)
  obtain ⟨hP1, hD1⟩ := hB
  rw [ht] at hP1
  obtain ⟨hP2, hD2⟩ := va_join hP hD is js hs hr hnj hij hk1 hFc hP1 hD1
  rw [hw]
  exact kk H1 locs1 hP2 hD2 hS1
theorem z_rwVv (S : CallFix p m c cc nL s args Ts own) (hM : Met l y wsY rm (va_Pc (.ref b :: As) (zPw D cI cZ cA wc H.size)) (va_Qv (fun (_ : Unit) => True) (zB D w1 (va_A wc H.size)) (va_A wc H.size)) 0 0 (va_A wc H.size)) (cw : CallW R s args own C index y bytes maxL ret wsY rm 0 0 n) (hE : zE D cI cZ cA s) (hP : va_P D vwCl ws H) (hD : va_D A ws) (hS : va_S A H0 H locs) (hA : ∀ q, H0.size ≤ q → A q) (is js : List Nat) (hi : is.filterMap (fun i => ws[i]?) = wc) (hs : is.map (fun i => ws[i]?) = wc.map some) (hr : js.map (fun i => ws[i]?) = wr.map some) (hni : va_nd is = true) (hnj : va_nd js = true) (hij : ∀ i ∈ js, i ∉ is) (q0 ci : Nat) {T : u_T} {N : Nat} {fs : List Value} (hc : vwCl[ci]? = some (C, T, N)) (hq : wc[q0]? = some (b, .inr (ci, fs)))
    (hn : As.length = n) (hsize : ls.size = nL) (hst : st0 = As.reverse ++ .ref b :: rest) (hW : (rest.map fun v => v.category).sum ≤ 8) (hdg : decode cc pc = .ok (.invokevirtual index, 3)) (hf : cells + 0 ≤ R.cells ∧ slots + 0 ≤ R.slots)
    (kk : ∀ (H1 : Heap) (locs1 : List Loc), va_P D vwCl (wr ++ w1) H1 → va_D A (wr ++ w1) → va_S A H0 H1 locs1 → W p l e R s m args below meth c H1 locs1 cells slots Q (F0 m (pc + 3) ls rest)) : W p l e R s m args below meth c H locs cells slots Q (F0 m pc ls st0) := by
  have hPc := hP.sub is hi
  have hDc := hD.sub is hni hs
  have hFc := va_free hD hS hA is hs
  refine va_callv (va_runV S hM cw ⟨zPw.blind, va_recv hE.1 hPc hc hq, fun U hU hWm => ⟨rfl, by rw [hU], by rw [hU]; exact hPc, hDc.weaken (fun _ _ _ _ => trivial), hE.warm hWm⟩⟩ rfl hn hsize hst (lv_room (m := m) (pc := pc) (ls := ls) (rest := rest) hW) hdg hf) hS (fun q _ h => hFc q h) hFc (fun u t H1 locs1 ht hvm hw hB hz1 hk1 hS1 => ?_)
  obtain ⟨hP1, hD1⟩ := hB
  rw [ht] at hP1
  obtain ⟨hP2, hD2⟩ := va_join hP hD is js hs hr hnj hij hk1 hFc hP1 hD1
  exact kk H1 locs1 hP2 hD2 hS1
theorem z_rwSv (S : CallFix p m c cc nL s args Ts own) (hM : Met l y wsY rm (va_Pc As (zPw D cI cZ cA wc H.size)) (va_Qv (fun (_ : Unit) => True) (zB D w1 (va_A wc H.size)) (va_A wc H.size)) 0 0 (va_A wc H.size)) (cw : CallB R s args own index y bytes maxL ret wsY rm 0 0 n ∧ (Cond.static y).before args s = true) (hE : zE D cI cZ cA s) (hP : va_P D vwCl ws H) (hD : va_D A ws) (hS : va_S A H0 H locs) (hA : ∀ q, H0.size ≤ q → A q) (is js : List Nat) (hi : is.filterMap (fun i => ws[i]?) = wc) (hs : is.map (fun i => ws[i]?) = wc.map some) (hr : js.map (fun i => ws[i]?) = wr.map some) (hni : va_nd is = true) (hnj : va_nd js = true) (hij : ∀ i ∈ js, i ∉ is)
    (hn : As.length = n) (hsize : ls.size = nL) (hst : st0 = As.reverse ++ rest) (hW : (rest.map fun v => v.category).sum ≤ 8) (hdg : decode cc pc = .ok (.invokestatic index, 3)) (hf : cells + 0 ≤ R.cells ∧ slots + 0 ≤ R.slots)
    (kk : ∀ (H1 : Heap) (locs1 : List Loc), va_P D vwCl (wr ++ w1) H1 → va_D A (wr ++ w1) → va_S A H0 H1 locs1 → W p l e R s m args below meth c H1 locs1 cells slots Q (F0 m (pc + 3) ls rest)) : W p l e R s m args below meth c H locs cells slots Q (F0 m pc ls st0) := by
  have hPc := hP.sub is hi
  have hDc := hD.sub is hni hs
  have hFc := va_free hD hS hA is hs
  refine va_callv (va_runS S hM cw ⟨zPw.blind, fun U hU hWm => ⟨rfl, by rw [hU], by rw [hU]; exact hPc, hDc.weaken (fun _ _ _ _ => trivial), hE.warm hWm⟩⟩ rfl hn hsize hst (lv_room (m := m) (pc := pc) (ls := ls) (rest := rest) hW) hdg hf) hS (fun q _ h => hFc q h) hFc (fun u t H1 locs1 ht hvm hw hB hz1 hk1 hS1 => ?_)
  obtain ⟨hP1, hD1⟩ := hB
  rw [ht] at hP1
  obtain ⟨hP2, hD2⟩ := va_join hP hD is js hs hr hnj hij hk1 hFc hP1 hD1
  exact kk H1 locs1 hP2 hD2 hS1
end ZROWS
end
section

/-! PURE WORDS of the class's leaves -/
def yk (kind faith hard : Int32) : Int32 :=
  (fun (v least : Int32) => (fun (w : Int32) => if least < w then w else least) (if v < 10 then v else 10)) ((if kind = 4 then faith + 2 else faith) + 5 - (if kind = 3 then 2 * hard else hard)) (if kind = 1 ∨ kind = 4 then 3 else 0)
def ykAt (K : Nat) (kd fa : Nat → Int32) (k hard : Int32) : Int32 := if ¬ k < 0 ∧ k < nI K then yk (kd k.toNatClampNeg) (fa k.toNatClampNeg) hard else -1
def eggY (K : Nat) (kd : Nat → Int32) (k : Int32) : Int32 := if (¬ k < 0 ∧ k < nI K) ∧ kd k.toNatClampNeg = 2 then 0 else 1
def hOfN (lt : Nat → Int32) (k : Int32) : Nat → Int32
  | 0 => 0
  | i + 1 => if lt i = k then hOfN lt k i ||| (1 <<< (nI i &&& 31)) else hOfN lt k i
def eOfN (lt eg : Nat → Int32) (k : Int32) : Nat → Int32
  | 0 => 0
  | i + 1 => if lt i = k then eOfN lt eg k i + eg i else eOfN lt eg k i
def cntN (bd : Nat → Int32) (b : Int32) : Nat → Int32
  | 0 => 0
  | i + 1 => if bd i = b then cntN bd b i + 1 else cntN bd b i
def sumN (f : Nat → Int32) : Nat → Int32
  | 0 => 0
  | i + 1 => sumN f i + f i
def gdN : Nat → Int64 → Int64 → Int64
  | 0, a, _ => a
  | n + 1, a, b => if b = 0 then a else gdN n b (a - a / b * b)
theorem gdN_z {n : Nat} {a : Int64} : gdN n a 0 = a := by
  cases n with
  | zero => rfl
  | succ n => rw [gdN, if_pos rfl]
def bitc (x : Int32) : Int32 :=
  (fun (a : Int32) => (fun (b : Int32) => (fun (c : Int32) => (fun (d : Int32) => (fun (e : Int32) => e &&& 63) (d + (d.toUInt32 >>> ((16 : Int32).toUInt32 &&& Int32.toUInt32 31)).toInt32)) (c + (c.toUInt32 >>> ((8 : Int32).toUInt32 &&& Int32.toUInt32 31)).toInt32)) ((b + (b.toUInt32 >>> ((4 : Int32).toUInt32 &&& Int32.toUInt32 31)).toInt32) &&& 252645135)) ((a &&& 858993459) + ((a.toUInt32 >>> ((2 : Int32).toUInt32 &&& Int32.toUInt32 31)).toInt32 &&& 858993459))) (x - ((x.toUInt32 >>> ((1 : Int32).toUInt32 &&& Int32.toUInt32 31)).toInt32 &&& 1431655765))
set_option maxHeartbeats 4000000 in
set_option maxRecDepth 100000 in
theorem c_X5_isOfKind (l : Launch) (D : va_G) (cI cZ cA : ClassId) (kd0 : Int32) (asked : Int32)  : Met l yX5_isOfKind wsX5_isOfKind (zr 1) (va_Pc [.int kd0, .int asked] (zPr D cI cZ cA [])) (vp_Si (fun r => r = zb (asked = 0 ∨ kd0 = asked ∨ (kd0 = 4 ∧ asked = 1)))) 0 0 (fun _ => False) := by
  refine Met.ofW (cc := cX5_isOfKind) (maxL := 2) (ret := (some .boolean)) (by decide) rfl ?_
  intro p e s m args below meth c s₁ B hml hv
  obtain ⟨rfl, hP, hE⟩ := hv
  have hx := B.exec
  have hb := B.bytes
  have hr := B.returns
  have hts := atoms_spec (ws := wsX5_isOfKind) B.pre
  have hown : s.vm.findClass RX5 = some m.cls := findClass_of_methodNamed B.named
  have hlocks := B.notSynchronized
  have hP : va_P D vwCl [] s.heap := hP
  have hl := lv_entry ([.int kd0, .int asked]) (n := 2) (Nat.le_of_ble_eq_true rfl)
  rw [lg_entry_eq]
  generalize (lg_sl ([.int kd0, .int asked]) ++ List.replicate (2 - (lg_sl ([.int kd0, .int asked])).length) Slot.unset).toArray = ls at hl ⊢
  have hl : lv_has ls 2 [(0, .int kd0), (1, .int asked)] := hl
  refine lv_iload_n hx hb dX5_isOfKind_0 rfl (lv_at hl 1 rfl) ?_
  refine lv_if_eq (tgt := 19) hx hb dX5_isOfKind_1 (by decide) (fun c_1 => ?_) (fun c_1 => ?_)
  · refine lv_iconst (v := 1) hx hb dX5_isOfKind_19 (by decide) ?_
    refine lv_goto (tgt := 24) hx hb dX5_isOfKind_20 (by decide) ?_
    exact W.zret (v := 1) hx hb hr rfl (fun t ht hW => ⟨1, rfl, (by unfold zb; grind), ht⟩) (fun q h => by cases h) dX5_isOfKind_24
  · refine lv_iload_n hx hb dX5_isOfKind_4 rfl (lv_at hl 0 rfl) ?_
    refine lv_iload_n hx hb dX5_isOfKind_5 rfl (lv_at hl 1 rfl) ?_
    refine lv_icmp_eq (tgt := 19) hx hb dX5_isOfKind_6 (by decide) (fun c_6 => ?_) (fun c_6 => ?_)
    · refine lv_iconst (v := 1) hx hb dX5_isOfKind_19 (by decide) ?_
      refine lv_goto (tgt := 24) hx hb dX5_isOfKind_20 (by decide) ?_
      exact W.zret (v := 1) hx hb hr rfl (fun t ht hW => ⟨1, rfl, (by unfold zb; grind), ht⟩) (fun q h => by cases h) dX5_isOfKind_24
    · refine lv_iload_n hx hb dX5_isOfKind_9 rfl (lv_at hl 0 rfl) ?_
      refine lv_iconst (v := 4) hx hb dX5_isOfKind_10 (by decide) ?_
      refine lv_icmp_ne (tgt := 23) hx hb dX5_isOfKind_11 (by decide) (fun c_11 => ?_) (fun c_11 => ?_)
      · refine lv_iconst (v := 0) hx hb dX5_isOfKind_23 (by decide) ?_
        exact W.zret (v := 0) hx hb hr rfl (fun t ht hW => ⟨0, rfl, (by unfold zb; grind), ht⟩) (fun q h => by cases h) dX5_isOfKind_24
      · refine lv_iload_n hx hb dX5_isOfKind_14 rfl (lv_at hl 1 rfl) ?_
        refine lv_iconst (v := 1) hx hb dX5_isOfKind_15 (by decide) ?_
        refine lv_icmp_ne (tgt := 23) hx hb dX5_isOfKind_16 (by decide) (fun c_16 => ?_) (fun c_16 => ?_)
        · refine lv_iconst (v := 0) hx hb dX5_isOfKind_23 (by decide) ?_
          exact W.zret (v := 0) hx hb hr rfl (fun t ht hW => ⟨0, rfl, (by unfold zb; grind), ht⟩) (fun q h => by cases h) dX5_isOfKind_24
        · refine lv_iconst (v := 1) hx hb dX5_isOfKind_19 (by decide) ?_
          refine lv_goto (tgt := 24) hx hb dX5_isOfKind_20 (by decide) ?_
          exact W.zret (v := 1) hx hb hr rfl (fun t ht hW => ⟨1, rfl, (by unfold zb; grind), ht⟩) (fun q h => by cases h) dX5_isOfKind_24

set_option maxHeartbeats 4000000 in
set_option maxRecDepth 100000 in
theorem c_X5_yearsKeptBy (l : Launch) (D : va_G) (cI cZ cA : ClassId) (kd0 : Int32) (fa0 : Int32) (hd0 : Int32)  : Met l yX5_yearsKeptBy wsX5_yearsKeptBy (zr 2) (va_Pc [.int kd0, .int fa0, .int hd0] (zPr D cI cZ cA [])) (vp_Si (fun r => r = yk kd0 fa0 hd0)) 0 0 (fun _ => False) := by
  refine Met.ofW (cc := cX5_yearsKeptBy) (maxL := 6) (ret := (some .int)) (by decide) rfl ?_
  intro p e s m args below meth c s₁ B hml hv
  obtain ⟨rfl, hP, hE⟩ := hv
  have hx := B.exec
  have hb := B.bytes
  have hr := B.returns
  have hts := atoms_spec (ws := wsX5_yearsKeptBy) B.pre
  have hown : s.vm.findClass RX5 = some m.cls := findClass_of_methodNamed B.named
  have hlocks := B.notSynchronized
  have hP : va_P D vwCl [] s.heap := hP
  have hl := lv_entry ([.int kd0, .int fa0, .int hd0]) (n := 6) (Nat.le_of_ble_eq_true rfl)
  rw [lg_entry_eq]
  generalize (lg_sl ([.int kd0, .int fa0, .int hd0]) ++ List.replicate (6 - (lg_sl ([.int kd0, .int fa0, .int hd0])).length) Slot.unset).toArray = ls at hl ⊢
  have hl : lv_has ls 6 [(0, .int kd0), (1, .int fa0), (2, .int hd0)] := hl
  have k_0 := hts (.methodLink RX5 248 Lib.Math.min.name) (by decide +kernel)
  have k_1 := hts (.static Lib.Math.min.name) (by decide +kernel)
  have k_2 := hts (.initialized "java/lang/Math") (by decide +kernel)
  have k_3 := hts (.code Lib.Math.min.name Lib.Math.min.code 2 (some .int)) (by decide +kernel)
  have k_4 := hts (.methodLink RX5 253 Lib.Math.max.name) (by decide +kernel)
  have k_5 := hts (.static Lib.Math.max.name) (by decide +kernel)
  have k_6 := hts (.code Lib.Math.max.name Lib.Math.max.code 2 (some .int)) (by decide +kernel)
  refine lv_iload_n hx hb dX5_yearsKeptBy_0 rfl (lv_at hl 0 rfl) ?_
  refine lv_iconst (v := 4) hx hb dX5_yearsKeptBy_1 (by decide) ?_
  refine z_roSi (As := [.int kd0, .int 4]) (rest := []) ⟨hx, hb, hml, hown, hts⟩ (c_X5_isOfKind l D cI cZ cA kd0 4 ) (va_cwS 2 hts gX5_yearsKeptBy_X5_isOfKind rfl rfl rfl (by decide +kernel) ⟨Nat.le_of_ble_eq_true rfl, Nat.le_of_ble_eq_true rfl⟩) hE hP [] rfl rfl hl.1 rfl (Nat.le_of_ble_eq_true rfl) dX5_yearsKeptBy_2 ⟨Nat.zero_le _, Nat.zero_le _⟩ ?_
  refine lv_if_eq (tgt := 14) hx hb dX5_yearsKeptBy_5 (by decide) (fun c_5 => ?_) (fun c_5 => ?_)
  · have c_5 := zb_0 c_5
    simp at c_5
    refine lv_iload_n hx hb dX5_yearsKeptBy_14 rfl (lv_at hl 1 rfl) ?_
    refine lv_istore_n (lv' := [(3, .int fa0), (0, .int kd0), (1, .int fa0), (2, .int hd0)]) hx hb dX5_yearsKeptBy_15 rfl hl (by decide) rfl (fun ls hl => ?_)
    refine lv_iload_n hx hb dX5_yearsKeptBy_16 rfl (lv_at hl 1 rfl) ?_
    refine lv_iconst (v := 3) hx hb dX5_yearsKeptBy_17 (by decide) ?_
    refine z_roSi (As := [.int kd0, .int 3]) (rest := []) ⟨hx, hb, hml, hown, hts⟩ (c_X5_isOfKind l D cI cZ cA kd0 3 ) (va_cwS 2 hts gX5_yearsKeptBy_X5_isOfKind rfl rfl rfl (by decide +kernel) ⟨Nat.le_of_ble_eq_true rfl, Nat.le_of_ble_eq_true rfl⟩) hE hP [] rfl rfl hl.1 rfl (Nat.le_of_ble_eq_true rfl) dX5_yearsKeptBy_18 ⟨Nat.zero_le _, Nat.zero_le _⟩ ?_
    refine lv_if_eq (tgt := 30) hx hb dX5_yearsKeptBy_21 (by decide) (fun c_21 => ?_) (fun c_21 => ?_)
    · have c_21 := zb_0 c_21
      simp at c_21
      refine lv_iload_n hx hb dX5_yearsKeptBy_30 rfl (lv_at hl 3 rfl) ?_
      refine lv_istore (lv' := [(4, .int hd0), (3, .int fa0), (0, .int kd0), (1, .int fa0), (2, .int hd0)]) hx hb dX5_yearsKeptBy_31 hl (by decide) rfl (fun ls hl => ?_)
      refine lv_iload_n hx hb dX5_yearsKeptBy_33 rfl (lv_at hl 2 rfl) ?_
      refine lv_iconst (v := 1) hx hb dX5_yearsKeptBy_34 (by decide) ?_
      refine z_roSi (As := [.int kd0, .int 1]) (rest := []) ⟨hx, hb, hml, hown, hts⟩ (c_X5_isOfKind l D cI cZ cA kd0 1 ) (va_cwS 2 hts gX5_yearsKeptBy_X5_isOfKind rfl rfl rfl (by decide +kernel) ⟨Nat.le_of_ble_eq_true rfl, Nat.le_of_ble_eq_true rfl⟩) hE hP [] rfl rfl hl.1 rfl (Nat.le_of_ble_eq_true rfl) dX5_yearsKeptBy_35 ⟨Nat.zero_le _, Nat.zero_le _⟩ ?_
      refine lv_if_eq (tgt := 45) hx hb dX5_yearsKeptBy_38 (by decide) (fun c_38 => ?_) (fun c_38 => ?_)
      · have c_38 := zb_0 c_38
        simp at c_38
        refine lv_iconst (v := 0) hx hb dX5_yearsKeptBy_45 (by decide) ?_
        refine lv_istore (lv' := [(5, .int 0), (4, .int hd0), (3, .int fa0), (0, .int kd0), (1, .int fa0), (2, .int hd0)]) hx hb dX5_yearsKeptBy_46 hl (by decide) rfl (fun ls hl => ?_)
        refine lv_iload hx hb dX5_yearsKeptBy_48 (lv_at hl 0 rfl) ?_
        refine lv_bipush (v := 10) hx hb dX5_yearsKeptBy_50 (by decide) ?_
        refine lv_iload_n hx hb dX5_yearsKeptBy_52 rfl (lv_at hl 2 rfl) ?_
        refine lv_iconst (v := 5) hx hb dX5_yearsKeptBy_53 (by decide) ?_
        refine lv_iadd hx hb dX5_yearsKeptBy_54 ?_
        refine lv_iload hx hb dX5_yearsKeptBy_55 (lv_at hl 1 rfl) ?_
        refine lv_isub hx hb dX5_yearsKeptBy_57 ?_
        refine va_mmin (hx) hb (by rw [hml]; exact hl.1.symm) hown k_0 k_1 k_2 k_3 (Nat.le_of_ble_eq_true rfl) (Nat.le_of_ble_eq_true rfl) (Nat.zero_le _) (Nat.zero_le _) dX5_yearsKeptBy_58 ?_
        refine va_mmax (hx) hb (by rw [hml]; exact hl.1.symm) hown k_4 k_5 k_2 k_6 (Nat.le_of_ble_eq_true rfl) (Nat.le_of_ble_eq_true rfl) (Nat.zero_le _) (Nat.zero_le _) dX5_yearsKeptBy_61 ?_
        exact W.iret (v := (if 0 < (if ((fa0 + 5) - hd0) < 10 then ((fa0 + 5) - hd0) else 10) then (if ((fa0 + 5) - hd0) < 10 then ((fa0 + 5) - hd0) else 10) else 0)) hx hb hr (fun t ht hW => ⟨(if 0 < (if ((fa0 + 5) - hd0) < 10 then ((fa0 + 5) - hd0) else 10) then (if ((fa0 + 5) - hd0) < 10 then ((fa0 + 5) - hd0) else 10) else 0), rfl, (by unfold yk; grind), ht⟩) (fun q h => by cases h) dX5_yearsKeptBy_64
      · have c_38 := zb_1 c_38
        simp at c_38
        refine lv_iconst (v := 3) hx hb dX5_yearsKeptBy_41 (by decide) ?_
        refine lv_goto (tgt := 46) hx hb dX5_yearsKeptBy_42 (by decide) ?_
        refine lv_istore (lv' := [(5, .int 3), (4, .int hd0), (3, .int fa0), (0, .int kd0), (1, .int fa0), (2, .int hd0)]) hx hb dX5_yearsKeptBy_46 hl (by decide) rfl (fun ls hl => ?_)
        refine lv_iload hx hb dX5_yearsKeptBy_48 (lv_at hl 0 rfl) ?_
        refine lv_bipush (v := 10) hx hb dX5_yearsKeptBy_50 (by decide) ?_
        refine lv_iload_n hx hb dX5_yearsKeptBy_52 rfl (lv_at hl 2 rfl) ?_
        refine lv_iconst (v := 5) hx hb dX5_yearsKeptBy_53 (by decide) ?_
        refine lv_iadd hx hb dX5_yearsKeptBy_54 ?_
        refine lv_iload hx hb dX5_yearsKeptBy_55 (lv_at hl 1 rfl) ?_
        refine lv_isub hx hb dX5_yearsKeptBy_57 ?_
        refine va_mmin (hx) hb (by rw [hml]; exact hl.1.symm) hown k_0 k_1 k_2 k_3 (Nat.le_of_ble_eq_true rfl) (Nat.le_of_ble_eq_true rfl) (Nat.zero_le _) (Nat.zero_le _) dX5_yearsKeptBy_58 ?_
        refine va_mmax (hx) hb (by rw [hml]; exact hl.1.symm) hown k_4 k_5 k_2 k_6 (Nat.le_of_ble_eq_true rfl) (Nat.le_of_ble_eq_true rfl) (Nat.zero_le _) (Nat.zero_le _) dX5_yearsKeptBy_61 ?_
        exact W.iret (v := (if 3 < (if ((fa0 + 5) - hd0) < 10 then ((fa0 + 5) - hd0) else 10) then (if ((fa0 + 5) - hd0) < 10 then ((fa0 + 5) - hd0) else 10) else 3)) hx hb hr (fun t ht hW => ⟨(if 3 < (if ((fa0 + 5) - hd0) < 10 then ((fa0 + 5) - hd0) else 10) then (if ((fa0 + 5) - hd0) < 10 then ((fa0 + 5) - hd0) else 10) else 3), rfl, (by unfold yk; grind), ht⟩) (fun q h => by cases h) dX5_yearsKeptBy_64
    · have c_21 := zb_1 c_21
      simp at c_21
      refine lv_iconst (v := 2) hx hb dX5_yearsKeptBy_24 (by decide) ?_
      refine lv_iload_n hx hb dX5_yearsKeptBy_25 rfl (lv_at hl 3 rfl) ?_
      refine lv_imul hx hb dX5_yearsKeptBy_26 ?_
      refine lv_goto (tgt := 31) hx hb dX5_yearsKeptBy_27 (by decide) ?_
      refine lv_istore (lv' := [(4, .int (2 * hd0)), (3, .int fa0), (0, .int kd0), (1, .int fa0), (2, .int hd0)]) hx hb dX5_yearsKeptBy_31 hl (by decide) rfl (fun ls hl => ?_)
      refine lv_iload_n hx hb dX5_yearsKeptBy_33 rfl (lv_at hl 2 rfl) ?_
      refine lv_iconst (v := 1) hx hb dX5_yearsKeptBy_34 (by decide) ?_
      refine z_roSi (As := [.int kd0, .int 1]) (rest := []) ⟨hx, hb, hml, hown, hts⟩ (c_X5_isOfKind l D cI cZ cA kd0 1 ) (va_cwS 2 hts gX5_yearsKeptBy_X5_isOfKind rfl rfl rfl (by decide +kernel) ⟨Nat.le_of_ble_eq_true rfl, Nat.le_of_ble_eq_true rfl⟩) hE hP [] rfl rfl hl.1 rfl (Nat.le_of_ble_eq_true rfl) dX5_yearsKeptBy_35 ⟨Nat.zero_le _, Nat.zero_le _⟩ ?_
      refine lv_if_eq (tgt := 45) hx hb dX5_yearsKeptBy_38 (by decide) (fun c_38 => ?_) (fun c_38 => ?_)
      · have c_38 := zb_0 c_38
        simp at c_38
        refine lv_iconst (v := 0) hx hb dX5_yearsKeptBy_45 (by decide) ?_
        refine lv_istore (lv' := [(5, .int 0), (4, .int (2 * hd0)), (3, .int fa0), (0, .int kd0), (1, .int fa0), (2, .int hd0)]) hx hb dX5_yearsKeptBy_46 hl (by decide) rfl (fun ls hl => ?_)
        refine lv_iload hx hb dX5_yearsKeptBy_48 (lv_at hl 0 rfl) ?_
        refine lv_bipush (v := 10) hx hb dX5_yearsKeptBy_50 (by decide) ?_
        refine lv_iload_n hx hb dX5_yearsKeptBy_52 rfl (lv_at hl 2 rfl) ?_
        refine lv_iconst (v := 5) hx hb dX5_yearsKeptBy_53 (by decide) ?_
        refine lv_iadd hx hb dX5_yearsKeptBy_54 ?_
        refine lv_iload hx hb dX5_yearsKeptBy_55 (lv_at hl 1 rfl) ?_
        refine lv_isub hx hb dX5_yearsKeptBy_57 ?_
        refine va_mmin (hx) hb (by rw [hml]; exact hl.1.symm) hown k_0 k_1 k_2 k_3 (Nat.le_of_ble_eq_true rfl) (Nat.le_of_ble_eq_true rfl) (Nat.zero_le _) (Nat.zero_le _) dX5_yearsKeptBy_58 ?_
        refine va_mmax (hx) hb (by rw [hml]; exact hl.1.symm) hown k_4 k_5 k_2 k_6 (Nat.le_of_ble_eq_true rfl) (Nat.le_of_ble_eq_true rfl) (Nat.zero_le _) (Nat.zero_le _) dX5_yearsKeptBy_61 ?_
        exact W.iret (v := (if 0 < (if ((fa0 + 5) - (2 * hd0)) < 10 then ((fa0 + 5) - (2 * hd0)) else 10) then (if ((fa0 + 5) - (2 * hd0)) < 10 then ((fa0 + 5) - (2 * hd0)) else 10) else 0)) hx hb hr (fun t ht hW => ⟨(if 0 < (if ((fa0 + 5) - (2 * hd0)) < 10 then ((fa0 + 5) - (2 * hd0)) else 10) then (if ((fa0 + 5) - (2 * hd0)) < 10 then ((fa0 + 5) - (2 * hd0)) else 10) else 0), rfl, (by unfold yk; grind), ht⟩) (fun q h => by cases h) dX5_yearsKeptBy_64
      · have c_38 := zb_1 c_38
        simp at c_38
        refine lv_iconst (v := 3) hx hb dX5_yearsKeptBy_41 (by decide) ?_
        refine lv_goto (tgt := 46) hx hb dX5_yearsKeptBy_42 (by decide) ?_
        refine lv_istore (lv' := [(5, .int 3), (4, .int (2 * hd0)), (3, .int fa0), (0, .int kd0), (1, .int fa0), (2, .int hd0)]) hx hb dX5_yearsKeptBy_46 hl (by decide) rfl (fun ls hl => ?_)
        refine lv_iload hx hb dX5_yearsKeptBy_48 (lv_at hl 0 rfl) ?_
        refine lv_bipush (v := 10) hx hb dX5_yearsKeptBy_50 (by decide) ?_
        refine lv_iload_n hx hb dX5_yearsKeptBy_52 rfl (lv_at hl 2 rfl) ?_
        refine lv_iconst (v := 5) hx hb dX5_yearsKeptBy_53 (by decide) ?_
        refine lv_iadd hx hb dX5_yearsKeptBy_54 ?_
        refine lv_iload hx hb dX5_yearsKeptBy_55 (lv_at hl 1 rfl) ?_
        refine lv_isub hx hb dX5_yearsKeptBy_57 ?_
        refine va_mmin (hx) hb (by rw [hml]; exact hl.1.symm) hown k_0 k_1 k_2 k_3 (Nat.le_of_ble_eq_true rfl) (Nat.le_of_ble_eq_true rfl) (Nat.zero_le _) (Nat.zero_le _) dX5_yearsKeptBy_58 ?_
        refine va_mmax (hx) hb (by rw [hml]; exact hl.1.symm) hown k_4 k_5 k_2 k_6 (Nat.le_of_ble_eq_true rfl) (Nat.le_of_ble_eq_true rfl) (Nat.zero_le _) (Nat.zero_le _) dX5_yearsKeptBy_61 ?_
        exact W.iret (v := (if 3 < (if ((fa0 + 5) - (2 * hd0)) < 10 then ((fa0 + 5) - (2 * hd0)) else 10) then (if ((fa0 + 5) - (2 * hd0)) < 10 then ((fa0 + 5) - (2 * hd0)) else 10) else 3)) hx hb hr (fun t ht hW => ⟨(if 3 < (if ((fa0 + 5) - (2 * hd0)) < 10 then ((fa0 + 5) - (2 * hd0)) else 10) then (if ((fa0 + 5) - (2 * hd0)) < 10 then ((fa0 + 5) - (2 * hd0)) else 10) else 3), rfl, (by unfold yk; grind), ht⟩) (fun q h => by cases h) dX5_yearsKeptBy_64
  · have c_5 := zb_1 c_5
    simp at c_5
    refine lv_iload_n hx hb dX5_yearsKeptBy_8 rfl (lv_at hl 1 rfl) ?_
    refine lv_iconst (v := 2) hx hb dX5_yearsKeptBy_9 (by decide) ?_
    refine lv_iadd hx hb dX5_yearsKeptBy_10 ?_
    refine lv_goto (tgt := 15) hx hb dX5_yearsKeptBy_11 (by decide) ?_
    refine lv_istore_n (lv' := [(3, .int (fa0 + 2)), (0, .int kd0), (1, .int fa0), (2, .int hd0)]) hx hb dX5_yearsKeptBy_15 rfl hl (by decide) rfl (fun ls hl => ?_)
    refine lv_iload_n hx hb dX5_yearsKeptBy_16 rfl (lv_at hl 1 rfl) ?_
    refine lv_iconst (v := 3) hx hb dX5_yearsKeptBy_17 (by decide) ?_
    refine z_roSi (As := [.int kd0, .int 3]) (rest := []) ⟨hx, hb, hml, hown, hts⟩ (c_X5_isOfKind l D cI cZ cA kd0 3 ) (va_cwS 2 hts gX5_yearsKeptBy_X5_isOfKind rfl rfl rfl (by decide +kernel) ⟨Nat.le_of_ble_eq_true rfl, Nat.le_of_ble_eq_true rfl⟩) hE hP [] rfl rfl hl.1 rfl (Nat.le_of_ble_eq_true rfl) dX5_yearsKeptBy_18 ⟨Nat.zero_le _, Nat.zero_le _⟩ ?_
    refine lv_if_eq (tgt := 30) hx hb dX5_yearsKeptBy_21 (by decide) (fun c_21 => ?_) (fun c_21 => ?_)
    · have c_21 := zb_0 c_21
      simp at c_21
      refine lv_iload_n hx hb dX5_yearsKeptBy_30 rfl (lv_at hl 3 rfl) ?_
      refine lv_istore (lv' := [(4, .int hd0), (3, .int (fa0 + 2)), (0, .int kd0), (1, .int fa0), (2, .int hd0)]) hx hb dX5_yearsKeptBy_31 hl (by decide) rfl (fun ls hl => ?_)
      refine lv_iload_n hx hb dX5_yearsKeptBy_33 rfl (lv_at hl 2 rfl) ?_
      refine lv_iconst (v := 1) hx hb dX5_yearsKeptBy_34 (by decide) ?_
      refine z_roSi (As := [.int kd0, .int 1]) (rest := []) ⟨hx, hb, hml, hown, hts⟩ (c_X5_isOfKind l D cI cZ cA kd0 1 ) (va_cwS 2 hts gX5_yearsKeptBy_X5_isOfKind rfl rfl rfl (by decide +kernel) ⟨Nat.le_of_ble_eq_true rfl, Nat.le_of_ble_eq_true rfl⟩) hE hP [] rfl rfl hl.1 rfl (Nat.le_of_ble_eq_true rfl) dX5_yearsKeptBy_35 ⟨Nat.zero_le _, Nat.zero_le _⟩ ?_
      refine lv_if_eq (tgt := 45) hx hb dX5_yearsKeptBy_38 (by decide) (fun c_38 => ?_) (fun c_38 => ?_)
      · have c_38 := zb_0 c_38
        simp at c_38
        refine lv_iconst (v := 0) hx hb dX5_yearsKeptBy_45 (by decide) ?_
        refine lv_istore (lv' := [(5, .int 0), (4, .int hd0), (3, .int (fa0 + 2)), (0, .int kd0), (1, .int fa0), (2, .int hd0)]) hx hb dX5_yearsKeptBy_46 hl (by decide) rfl (fun ls hl => ?_)
        refine lv_iload hx hb dX5_yearsKeptBy_48 (lv_at hl 0 rfl) ?_
        refine lv_bipush (v := 10) hx hb dX5_yearsKeptBy_50 (by decide) ?_
        refine lv_iload_n hx hb dX5_yearsKeptBy_52 rfl (lv_at hl 2 rfl) ?_
        refine lv_iconst (v := 5) hx hb dX5_yearsKeptBy_53 (by decide) ?_
        refine lv_iadd hx hb dX5_yearsKeptBy_54 ?_
        refine lv_iload hx hb dX5_yearsKeptBy_55 (lv_at hl 1 rfl) ?_
        refine lv_isub hx hb dX5_yearsKeptBy_57 ?_
        refine va_mmin (hx) hb (by rw [hml]; exact hl.1.symm) hown k_0 k_1 k_2 k_3 (Nat.le_of_ble_eq_true rfl) (Nat.le_of_ble_eq_true rfl) (Nat.zero_le _) (Nat.zero_le _) dX5_yearsKeptBy_58 ?_
        refine va_mmax (hx) hb (by rw [hml]; exact hl.1.symm) hown k_4 k_5 k_2 k_6 (Nat.le_of_ble_eq_true rfl) (Nat.le_of_ble_eq_true rfl) (Nat.zero_le _) (Nat.zero_le _) dX5_yearsKeptBy_61 ?_
        exact W.iret (v := (if 0 < (if (((fa0 + 2) + 5) - hd0) < 10 then (((fa0 + 2) + 5) - hd0) else 10) then (if (((fa0 + 2) + 5) - hd0) < 10 then (((fa0 + 2) + 5) - hd0) else 10) else 0)) hx hb hr (fun t ht hW => ⟨(if 0 < (if (((fa0 + 2) + 5) - hd0) < 10 then (((fa0 + 2) + 5) - hd0) else 10) then (if (((fa0 + 2) + 5) - hd0) < 10 then (((fa0 + 2) + 5) - hd0) else 10) else 0), rfl, (by unfold yk; grind), ht⟩) (fun q h => by cases h) dX5_yearsKeptBy_64
      · have c_38 := zb_1 c_38
        simp at c_38
        refine lv_iconst (v := 3) hx hb dX5_yearsKeptBy_41 (by decide) ?_
        refine lv_goto (tgt := 46) hx hb dX5_yearsKeptBy_42 (by decide) ?_
        refine lv_istore (lv' := [(5, .int 3), (4, .int hd0), (3, .int (fa0 + 2)), (0, .int kd0), (1, .int fa0), (2, .int hd0)]) hx hb dX5_yearsKeptBy_46 hl (by decide) rfl (fun ls hl => ?_)
        refine lv_iload hx hb dX5_yearsKeptBy_48 (lv_at hl 0 rfl) ?_
        refine lv_bipush (v := 10) hx hb dX5_yearsKeptBy_50 (by decide) ?_
        refine lv_iload_n hx hb dX5_yearsKeptBy_52 rfl (lv_at hl 2 rfl) ?_
        refine lv_iconst (v := 5) hx hb dX5_yearsKeptBy_53 (by decide) ?_
        refine lv_iadd hx hb dX5_yearsKeptBy_54 ?_
        refine lv_iload hx hb dX5_yearsKeptBy_55 (lv_at hl 1 rfl) ?_
        refine lv_isub hx hb dX5_yearsKeptBy_57 ?_
        refine va_mmin (hx) hb (by rw [hml]; exact hl.1.symm) hown k_0 k_1 k_2 k_3 (Nat.le_of_ble_eq_true rfl) (Nat.le_of_ble_eq_true rfl) (Nat.zero_le _) (Nat.zero_le _) dX5_yearsKeptBy_58 ?_
        refine va_mmax (hx) hb (by rw [hml]; exact hl.1.symm) hown k_4 k_5 k_2 k_6 (Nat.le_of_ble_eq_true rfl) (Nat.le_of_ble_eq_true rfl) (Nat.zero_le _) (Nat.zero_le _) dX5_yearsKeptBy_61 ?_
        exact W.iret (v := (if 3 < (if (((fa0 + 2) + 5) - hd0) < 10 then (((fa0 + 2) + 5) - hd0) else 10) then (if (((fa0 + 2) + 5) - hd0) < 10 then (((fa0 + 2) + 5) - hd0) else 10) else 3)) hx hb hr (fun t ht hW => ⟨(if 3 < (if (((fa0 + 2) + 5) - hd0) < 10 then (((fa0 + 2) + 5) - hd0) else 10) then (if (((fa0 + 2) + 5) - hd0) < 10 then (((fa0 + 2) + 5) - hd0) else 10) else 3), rfl, (by unfold yk; grind), ht⟩) (fun q h => by cases h) dX5_yearsKeptBy_64
    · have c_21 := zb_1 c_21
      simp at c_21
      refine lv_iconst (v := 2) hx hb dX5_yearsKeptBy_24 (by decide) ?_
      refine lv_iload_n hx hb dX5_yearsKeptBy_25 rfl (lv_at hl 3 rfl) ?_
      refine lv_imul hx hb dX5_yearsKeptBy_26 ?_
      refine lv_goto (tgt := 31) hx hb dX5_yearsKeptBy_27 (by decide) ?_
      refine lv_istore (lv' := [(4, .int (2 * hd0)), (3, .int (fa0 + 2)), (0, .int kd0), (1, .int fa0), (2, .int hd0)]) hx hb dX5_yearsKeptBy_31 hl (by decide) rfl (fun ls hl => ?_)
      refine lv_iload_n hx hb dX5_yearsKeptBy_33 rfl (lv_at hl 2 rfl) ?_
      refine lv_iconst (v := 1) hx hb dX5_yearsKeptBy_34 (by decide) ?_
      refine z_roSi (As := [.int kd0, .int 1]) (rest := []) ⟨hx, hb, hml, hown, hts⟩ (c_X5_isOfKind l D cI cZ cA kd0 1 ) (va_cwS 2 hts gX5_yearsKeptBy_X5_isOfKind rfl rfl rfl (by decide +kernel) ⟨Nat.le_of_ble_eq_true rfl, Nat.le_of_ble_eq_true rfl⟩) hE hP [] rfl rfl hl.1 rfl (Nat.le_of_ble_eq_true rfl) dX5_yearsKeptBy_35 ⟨Nat.zero_le _, Nat.zero_le _⟩ ?_
      refine lv_if_eq (tgt := 45) hx hb dX5_yearsKeptBy_38 (by decide) (fun c_38 => ?_) (fun c_38 => ?_)
      · have c_38 := zb_0 c_38
        simp at c_38
        refine lv_iconst (v := 0) hx hb dX5_yearsKeptBy_45 (by decide) ?_
        refine lv_istore (lv' := [(5, .int 0), (4, .int (2 * hd0)), (3, .int (fa0 + 2)), (0, .int kd0), (1, .int fa0), (2, .int hd0)]) hx hb dX5_yearsKeptBy_46 hl (by decide) rfl (fun ls hl => ?_)
        refine lv_iload hx hb dX5_yearsKeptBy_48 (lv_at hl 0 rfl) ?_
        refine lv_bipush (v := 10) hx hb dX5_yearsKeptBy_50 (by decide) ?_
        refine lv_iload_n hx hb dX5_yearsKeptBy_52 rfl (lv_at hl 2 rfl) ?_
        refine lv_iconst (v := 5) hx hb dX5_yearsKeptBy_53 (by decide) ?_
        refine lv_iadd hx hb dX5_yearsKeptBy_54 ?_
        refine lv_iload hx hb dX5_yearsKeptBy_55 (lv_at hl 1 rfl) ?_
        refine lv_isub hx hb dX5_yearsKeptBy_57 ?_
        refine va_mmin (hx) hb (by rw [hml]; exact hl.1.symm) hown k_0 k_1 k_2 k_3 (Nat.le_of_ble_eq_true rfl) (Nat.le_of_ble_eq_true rfl) (Nat.zero_le _) (Nat.zero_le _) dX5_yearsKeptBy_58 ?_
        refine va_mmax (hx) hb (by rw [hml]; exact hl.1.symm) hown k_4 k_5 k_2 k_6 (Nat.le_of_ble_eq_true rfl) (Nat.le_of_ble_eq_true rfl) (Nat.zero_le _) (Nat.zero_le _) dX5_yearsKeptBy_61 ?_
        exact W.iret (v := (if 0 < (if (((fa0 + 2) + 5) - (2 * hd0)) < 10 then (((fa0 + 2) + 5) - (2 * hd0)) else 10) then (if (((fa0 + 2) + 5) - (2 * hd0)) < 10 then (((fa0 + 2) + 5) - (2 * hd0)) else 10) else 0)) hx hb hr (fun t ht hW => ⟨(if 0 < (if (((fa0 + 2) + 5) - (2 * hd0)) < 10 then (((fa0 + 2) + 5) - (2 * hd0)) else 10) then (if (((fa0 + 2) + 5) - (2 * hd0)) < 10 then (((fa0 + 2) + 5) - (2 * hd0)) else 10) else 0), rfl, (by unfold yk; grind), ht⟩) (fun q h => by cases h) dX5_yearsKeptBy_64
      · have c_38 := zb_1 c_38
        simp at c_38
        refine lv_iconst (v := 3) hx hb dX5_yearsKeptBy_41 (by decide) ?_
        refine lv_goto (tgt := 46) hx hb dX5_yearsKeptBy_42 (by decide) ?_
        refine lv_istore (lv' := [(5, .int 3), (4, .int (2 * hd0)), (3, .int (fa0 + 2)), (0, .int kd0), (1, .int fa0), (2, .int hd0)]) hx hb dX5_yearsKeptBy_46 hl (by decide) rfl (fun ls hl => ?_)
        refine lv_iload hx hb dX5_yearsKeptBy_48 (lv_at hl 0 rfl) ?_
        refine lv_bipush (v := 10) hx hb dX5_yearsKeptBy_50 (by decide) ?_
        refine lv_iload_n hx hb dX5_yearsKeptBy_52 rfl (lv_at hl 2 rfl) ?_
        refine lv_iconst (v := 5) hx hb dX5_yearsKeptBy_53 (by decide) ?_
        refine lv_iadd hx hb dX5_yearsKeptBy_54 ?_
        refine lv_iload hx hb dX5_yearsKeptBy_55 (lv_at hl 1 rfl) ?_
        refine lv_isub hx hb dX5_yearsKeptBy_57 ?_
        refine va_mmin (hx) hb (by rw [hml]; exact hl.1.symm) hown k_0 k_1 k_2 k_3 (Nat.le_of_ble_eq_true rfl) (Nat.le_of_ble_eq_true rfl) (Nat.zero_le _) (Nat.zero_le _) dX5_yearsKeptBy_58 ?_
        refine va_mmax (hx) hb (by rw [hml]; exact hl.1.symm) hown k_4 k_5 k_2 k_6 (Nat.le_of_ble_eq_true rfl) (Nat.le_of_ble_eq_true rfl) (Nat.zero_le _) (Nat.zero_le _) dX5_yearsKeptBy_61 ?_
        exact W.iret (v := (if 3 < (if (((fa0 + 2) + 5) - (2 * hd0)) < 10 then (((fa0 + 2) + 5) - (2 * hd0)) else 10) then (if (((fa0 + 2) + 5) - (2 * hd0)) < 10 then (((fa0 + 2) + 5) - (2 * hd0)) else 10) else 3)) hx hb hr (fun t ht hW => ⟨(if 3 < (if (((fa0 + 2) + 5) - (2 * hd0)) < 10 then (((fa0 + 2) + 5) - (2 * hd0)) else 10) then (if (((fa0 + 2) + 5) - (2 * hd0)) < 10 then (((fa0 + 2) + 5) - (2 * hd0)) else 10) else 3), rfl, (by unfold yk; grind), ht⟩) (fun q h => by cases h) dX5_yearsKeptBy_64

set_option maxHeartbeats 4000000 in
set_option maxRecDepth 100000 in
theorem c_X5_digestNumber (l : Launch) (D : va_G) (cI cZ cA : ClassId) (h0 : Int64) (v0 : Int64)  : Met l yX5_digestNumber wsX5_digestNumber (zr 1) (va_Pc [.long h0, .long v0] (zPr D cI cZ cA [])) (vp_Sl (fun r => r = 31 * h0 + v0)) 0 0 (fun _ => False) := by
  refine Met.ofW (cc := cX5_digestNumber) (maxL := 4) (ret := (some .long)) (by decide) rfl ?_
  intro p e s m args below meth c s₁ B hml hv
  obtain ⟨rfl, hP, hE⟩ := hv
  have hx := B.exec
  have hb := B.bytes
  have hr := B.returns
  have hts := atoms_spec (ws := wsX5_digestNumber) B.pre
  have hown : s.vm.findClass RX5 = some m.cls := findClass_of_methodNamed B.named
  have hlocks := B.notSynchronized
  have hP : va_P D vwCl [] s.heap := hP
  have hl := lv_entry ([.long h0, .long v0]) (n := 4) (Nat.le_of_ble_eq_true rfl)
  rw [lg_entry_eq]
  generalize (lg_sl ([.long h0, .long v0]) ++ List.replicate (4 - (lg_sl ([.long h0, .long v0])).length) Slot.unset).toArray = ls at hl ⊢
  have hl : lv_has ls 4 [(0, .long h0), (2, .long v0)] := hl
  have k_0 := hts (.constantLong RX5 239 (31)) (by decide +kernel)
  refine lv_ldc2 (v := 31) hx hb hown k_0 dX5_digestNumber_0 ?_
  refine lv_lload_n hx hb dX5_digestNumber_3 rfl (lv_at hl 0 rfl) ?_
  refine lv_lmul hx hb dX5_digestNumber_4 ?_
  refine lv_lload_n hx hb dX5_digestNumber_5 rfl (lv_at hl 1 rfl) ?_
  refine lv_ladd hx hb dX5_digestNumber_6 ?_
  exact W.lret (v := (31 * h0) + v0) hx hb hr (fun t ht hW => ⟨((31 * h0) + v0), rfl, rfl, ht⟩) (fun q h => by cases h) dX5_digestNumber_7

set_option maxHeartbeats 4000000 in
set_option maxRecDepth 100000 in
theorem c_J6_bitCount_0f7a4 (l : Launch) (D : va_G) (cI cZ cA : ClassId) (x0 : Int32)  : Met l yJ6_bitCount_0f7a4 wsJ6_bitCount_0f7a4 (zr 1) (va_Pc [.int x0] (zPr D cI cZ cA [])) (vp_Si (fun r => r = bitc x0)) 0 0 (fun _ => False) := by
  refine Met.ofW (cc := cJ6_bitCount_0f7a4) (maxL := 1) (ret := (some .int)) (by decide) rfl ?_
  intro p e s m args below meth c s₁ B hml hv
  obtain ⟨rfl, hP, hE⟩ := hv
  have hx := B.exec
  have hb := B.bytes
  have hr := B.returns
  have hts := atoms_spec (ws := wsJ6_bitCount_0f7a4) B.pre
  have hown : s.vm.findClass RJ6 = some m.cls := findClass_of_methodNamed B.named
  have hlocks := B.notSynchronized
  have hP : va_P D vwCl [] s.heap := hP
  have hl := lv_entry ([.int x0]) (n := 1) (Nat.le_of_ble_eq_true rfl)
  rw [lg_entry_eq]
  generalize (lg_sl ([.int x0]) ++ List.replicate (1 - (lg_sl ([.int x0])).length) Slot.unset).toArray = ls at hl ⊢
  have hl : lv_has ls 1 [(0, .int x0)] := hl
  have k_0 := hts (.constant RJ6 265 (1431655765)) (by decide +kernel)
  have k_1 := hts (.constant RJ6 266 (858993459)) (by decide +kernel)
  have k_2 := hts (.constant RJ6 267 (252645135)) (by decide +kernel)
  refine lv_iload_n hx hb dJ6_bitCount_0f7a4_0 rfl (lv_at hl 0 rfl) ?_
  refine lv_iload_n hx hb dJ6_bitCount_0f7a4_1 rfl (lv_at hl 0 rfl) ?_
  refine lv_iconst (v := 1) hx hb dJ6_bitCount_0f7a4_2 (by decide) ?_
  refine lv_iushr (v := (x0.toUInt32 >>> ((1 : Int32).toUInt32 &&& Int32.toUInt32 31)).toInt32) hx hb dJ6_bitCount_0f7a4_3 rfl ?_
  refine lv_ldcw (v := 1431655765) hx hb hown k_0 dJ6_bitCount_0f7a4_4 ?_
  refine lv_iand hx hb dJ6_bitCount_0f7a4_7 ?_
  refine lv_isub hx hb dJ6_bitCount_0f7a4_8 ?_
  refine lv_istore_n (lv' := [(0, .int (x0 - (((x0.toUInt32 >>> ((1 : Int32).toUInt32 &&& Int32.toUInt32 31)).toInt32) &&& 1431655765)))]) hx hb dJ6_bitCount_0f7a4_9 rfl hl (by decide) rfl (fun ls hl => ?_)
  refine lv_iload_n hx hb dJ6_bitCount_0f7a4_10 rfl (lv_at hl 0 rfl) ?_
  refine lv_ldcw (v := 858993459) hx hb hown k_1 dJ6_bitCount_0f7a4_11 ?_
  refine lv_iand hx hb dJ6_bitCount_0f7a4_14 ?_
  refine lv_iload_n hx hb dJ6_bitCount_0f7a4_15 rfl (lv_at hl 0 rfl) ?_
  refine lv_iconst (v := 2) hx hb dJ6_bitCount_0f7a4_16 (by decide) ?_
  refine lv_iushr (v := ((x0 - (((x0.toUInt32 >>> ((1 : Int32).toUInt32 &&& Int32.toUInt32 31)).toInt32) &&& 1431655765)).toUInt32 >>> ((2 : Int32).toUInt32 &&& Int32.toUInt32 31)).toInt32) hx hb dJ6_bitCount_0f7a4_17 rfl ?_
  refine lv_ldcw (v := 858993459) hx hb hown k_1 dJ6_bitCount_0f7a4_18 ?_
  refine lv_iand hx hb dJ6_bitCount_0f7a4_21 ?_
  refine lv_iadd hx hb dJ6_bitCount_0f7a4_22 ?_
  refine lv_istore_n (lv' := [(0, .int (((x0 - (((x0.toUInt32 >>> ((1 : Int32).toUInt32 &&& Int32.toUInt32 31)).toInt32) &&& 1431655765)) &&& 858993459) + ((((x0 - (((x0.toUInt32 >>> ((1 : Int32).toUInt32 &&& Int32.toUInt32 31)).toInt32) &&& 1431655765)).toUInt32 >>> ((2 : Int32).toUInt32 &&& Int32.toUInt32 31)).toInt32) &&& 858993459)))]) hx hb dJ6_bitCount_0f7a4_23 rfl hl (by decide) rfl (fun ls hl => ?_)
  refine lv_iload_n hx hb dJ6_bitCount_0f7a4_24 rfl (lv_at hl 0 rfl) ?_
  refine lv_iload_n hx hb dJ6_bitCount_0f7a4_25 rfl (lv_at hl 0 rfl) ?_
  refine lv_iconst (v := 4) hx hb dJ6_bitCount_0f7a4_26 (by decide) ?_
  refine lv_iushr (v := ((((x0 - (((x0.toUInt32 >>> ((1 : Int32).toUInt32 &&& Int32.toUInt32 31)).toInt32) &&& 1431655765)) &&& 858993459) + ((((x0 - (((x0.toUInt32 >>> ((1 : Int32).toUInt32 &&& Int32.toUInt32 31)).toInt32) &&& 1431655765)).toUInt32 >>> ((2 : Int32).toUInt32 &&& Int32.toUInt32 31)).toInt32) &&& 858993459)).toUInt32 >>> ((4 : Int32).toUInt32 &&& Int32.toUInt32 31)).toInt32) hx hb dJ6_bitCount_0f7a4_27 rfl ?_
  refine lv_iadd hx hb dJ6_bitCount_0f7a4_28 ?_
  refine lv_ldcw (v := 252645135) hx hb hown k_2 dJ6_bitCount_0f7a4_29 ?_
  refine lv_iand hx hb dJ6_bitCount_0f7a4_32 ?_
  refine lv_istore_n (lv' := [(0, .int (((((x0 - (((x0.toUInt32 >>> ((1 : Int32).toUInt32 &&& Int32.toUInt32 31)).toInt32) &&& 1431655765)) &&& 858993459) + ((((x0 - (((x0.toUInt32 >>> ((1 : Int32).toUInt32 &&& Int32.toUInt32 31)).toInt32) &&& 1431655765)).toUInt32 >>> ((2 : Int32).toUInt32 &&& Int32.toUInt32 31)).toInt32) &&& 858993459)) + (((((x0 - (((x0.toUInt32 >>> ((1 : Int32).toUInt32 &&& Int32.toUInt32 31)).toInt32) &&& 1431655765)) &&& 858993459) + ((((x0 - (((x0.toUInt32 >>> ((1 : Int32).toUInt32 &&& Int32.toUInt32 31)).toInt32) &&& 1431655765)).toUInt32 >>> ((2 : Int32).toUInt32 &&& Int32.toUInt32 31)).toInt32) &&& 858993459)).toUInt32 >>> ((4 : Int32).toUInt32 &&& Int32.toUInt32 31)).toInt32)) &&& 252645135))]) hx hb dJ6_bitCount_0f7a4_33 rfl hl (by decide) rfl (fun ls hl => ?_)
  refine lv_iload_n hx hb dJ6_bitCount_0f7a4_34 rfl (lv_at hl 0 rfl) ?_
  refine lv_iload_n hx hb dJ6_bitCount_0f7a4_35 rfl (lv_at hl 0 rfl) ?_
  refine lv_bipush (v := 8) hx hb dJ6_bitCount_0f7a4_36 (by decide) ?_
  refine lv_iushr (v := ((((((x0 - (((x0.toUInt32 >>> ((1 : Int32).toUInt32 &&& Int32.toUInt32 31)).toInt32) &&& 1431655765)) &&& 858993459) + ((((x0 - (((x0.toUInt32 >>> ((1 : Int32).toUInt32 &&& Int32.toUInt32 31)).toInt32) &&& 1431655765)).toUInt32 >>> ((2 : Int32).toUInt32 &&& Int32.toUInt32 31)).toInt32) &&& 858993459)) + (((((x0 - (((x0.toUInt32 >>> ((1 : Int32).toUInt32 &&& Int32.toUInt32 31)).toInt32) &&& 1431655765)) &&& 858993459) + ((((x0 - (((x0.toUInt32 >>> ((1 : Int32).toUInt32 &&& Int32.toUInt32 31)).toInt32) &&& 1431655765)).toUInt32 >>> ((2 : Int32).toUInt32 &&& Int32.toUInt32 31)).toInt32) &&& 858993459)).toUInt32 >>> ((4 : Int32).toUInt32 &&& Int32.toUInt32 31)).toInt32)) &&& 252645135).toUInt32 >>> ((8 : Int32).toUInt32 &&& Int32.toUInt32 31)).toInt32) hx hb dJ6_bitCount_0f7a4_38 rfl ?_
  refine lv_iadd hx hb dJ6_bitCount_0f7a4_39 ?_
  refine lv_istore_n (lv' := [(0, .int ((((((x0 - (((x0.toUInt32 >>> ((1 : Int32).toUInt32 &&& Int32.toUInt32 31)).toInt32) &&& 1431655765)) &&& 858993459) + ((((x0 - (((x0.toUInt32 >>> ((1 : Int32).toUInt32 &&& Int32.toUInt32 31)).toInt32) &&& 1431655765)).toUInt32 >>> ((2 : Int32).toUInt32 &&& Int32.toUInt32 31)).toInt32) &&& 858993459)) + (((((x0 - (((x0.toUInt32 >>> ((1 : Int32).toUInt32 &&& Int32.toUInt32 31)).toInt32) &&& 1431655765)) &&& 858993459) + ((((x0 - (((x0.toUInt32 >>> ((1 : Int32).toUInt32 &&& Int32.toUInt32 31)).toInt32) &&& 1431655765)).toUInt32 >>> ((2 : Int32).toUInt32 &&& Int32.toUInt32 31)).toInt32) &&& 858993459)).toUInt32 >>> ((4 : Int32).toUInt32 &&& Int32.toUInt32 31)).toInt32)) &&& 252645135) + (((((((x0 - (((x0.toUInt32 >>> ((1 : Int32).toUInt32 &&& Int32.toUInt32 31)).toInt32) &&& 1431655765)) &&& 858993459) + ((((x0 - (((x0.toUInt32 >>> ((1 : Int32).toUInt32 &&& Int32.toUInt32 31)).toInt32) &&& 1431655765)).toUInt32 >>> ((2 : Int32).toUInt32 &&& Int32.toUInt32 31)).toInt32) &&& 858993459)) + (((((x0 - (((x0.toUInt32 >>> ((1 : Int32).toUInt32 &&& Int32.toUInt32 31)).toInt32) &&& 1431655765)) &&& 858993459) + ((((x0 - (((x0.toUInt32 >>> ((1 : Int32).toUInt32 &&& Int32.toUInt32 31)).toInt32) &&& 1431655765)).toUInt32 >>> ((2 : Int32).toUInt32 &&& Int32.toUInt32 31)).toInt32) &&& 858993459)).toUInt32 >>> ((4 : Int32).toUInt32 &&& Int32.toUInt32 31)).toInt32)) &&& 252645135).toUInt32 >>> ((8 : Int32).toUInt32 &&& Int32.toUInt32 31)).toInt32)))]) hx hb dJ6_bitCount_0f7a4_40 rfl hl (by decide) rfl (fun ls hl => ?_)
  refine lv_iload_n hx hb dJ6_bitCount_0f7a4_41 rfl (lv_at hl 0 rfl) ?_
  refine lv_iload_n hx hb dJ6_bitCount_0f7a4_42 rfl (lv_at hl 0 rfl) ?_
  refine lv_bipush (v := 16) hx hb dJ6_bitCount_0f7a4_43 (by decide) ?_
  refine lv_iushr (v := (((((((x0 - (((x0.toUInt32 >>> ((1 : Int32).toUInt32 &&& Int32.toUInt32 31)).toInt32) &&& 1431655765)) &&& 858993459) + ((((x0 - (((x0.toUInt32 >>> ((1 : Int32).toUInt32 &&& Int32.toUInt32 31)).toInt32) &&& 1431655765)).toUInt32 >>> ((2 : Int32).toUInt32 &&& Int32.toUInt32 31)).toInt32) &&& 858993459)) + (((((x0 - (((x0.toUInt32 >>> ((1 : Int32).toUInt32 &&& Int32.toUInt32 31)).toInt32) &&& 1431655765)) &&& 858993459) + ((((x0 - (((x0.toUInt32 >>> ((1 : Int32).toUInt32 &&& Int32.toUInt32 31)).toInt32) &&& 1431655765)).toUInt32 >>> ((2 : Int32).toUInt32 &&& Int32.toUInt32 31)).toInt32) &&& 858993459)).toUInt32 >>> ((4 : Int32).toUInt32 &&& Int32.toUInt32 31)).toInt32)) &&& 252645135) + (((((((x0 - (((x0.toUInt32 >>> ((1 : Int32).toUInt32 &&& Int32.toUInt32 31)).toInt32) &&& 1431655765)) &&& 858993459) + ((((x0 - (((x0.toUInt32 >>> ((1 : Int32).toUInt32 &&& Int32.toUInt32 31)).toInt32) &&& 1431655765)).toUInt32 >>> ((2 : Int32).toUInt32 &&& Int32.toUInt32 31)).toInt32) &&& 858993459)) + (((((x0 - (((x0.toUInt32 >>> ((1 : Int32).toUInt32 &&& Int32.toUInt32 31)).toInt32) &&& 1431655765)) &&& 858993459) + ((((x0 - (((x0.toUInt32 >>> ((1 : Int32).toUInt32 &&& Int32.toUInt32 31)).toInt32) &&& 1431655765)).toUInt32 >>> ((2 : Int32).toUInt32 &&& Int32.toUInt32 31)).toInt32) &&& 858993459)).toUInt32 >>> ((4 : Int32).toUInt32 &&& Int32.toUInt32 31)).toInt32)) &&& 252645135).toUInt32 >>> ((8 : Int32).toUInt32 &&& Int32.toUInt32 31)).toInt32)).toUInt32 >>> ((16 : Int32).toUInt32 &&& Int32.toUInt32 31)).toInt32) hx hb dJ6_bitCount_0f7a4_45 rfl ?_
  refine lv_iadd hx hb dJ6_bitCount_0f7a4_46 ?_
  refine lv_istore_n (lv' := [(0, .int (((((((x0 - (((x0.toUInt32 >>> ((1 : Int32).toUInt32 &&& Int32.toUInt32 31)).toInt32) &&& 1431655765)) &&& 858993459) + ((((x0 - (((x0.toUInt32 >>> ((1 : Int32).toUInt32 &&& Int32.toUInt32 31)).toInt32) &&& 1431655765)).toUInt32 >>> ((2 : Int32).toUInt32 &&& Int32.toUInt32 31)).toInt32) &&& 858993459)) + (((((x0 - (((x0.toUInt32 >>> ((1 : Int32).toUInt32 &&& Int32.toUInt32 31)).toInt32) &&& 1431655765)) &&& 858993459) + ((((x0 - (((x0.toUInt32 >>> ((1 : Int32).toUInt32 &&& Int32.toUInt32 31)).toInt32) &&& 1431655765)).toUInt32 >>> ((2 : Int32).toUInt32 &&& Int32.toUInt32 31)).toInt32) &&& 858993459)).toUInt32 >>> ((4 : Int32).toUInt32 &&& Int32.toUInt32 31)).toInt32)) &&& 252645135) + (((((((x0 - (((x0.toUInt32 >>> ((1 : Int32).toUInt32 &&& Int32.toUInt32 31)).toInt32) &&& 1431655765)) &&& 858993459) + ((((x0 - (((x0.toUInt32 >>> ((1 : Int32).toUInt32 &&& Int32.toUInt32 31)).toInt32) &&& 1431655765)).toUInt32 >>> ((2 : Int32).toUInt32 &&& Int32.toUInt32 31)).toInt32) &&& 858993459)) + (((((x0 - (((x0.toUInt32 >>> ((1 : Int32).toUInt32 &&& Int32.toUInt32 31)).toInt32) &&& 1431655765)) &&& 858993459) + ((((x0 - (((x0.toUInt32 >>> ((1 : Int32).toUInt32 &&& Int32.toUInt32 31)).toInt32) &&& 1431655765)).toUInt32 >>> ((2 : Int32).toUInt32 &&& Int32.toUInt32 31)).toInt32) &&& 858993459)).toUInt32 >>> ((4 : Int32).toUInt32 &&& Int32.toUInt32 31)).toInt32)) &&& 252645135).toUInt32 >>> ((8 : Int32).toUInt32 &&& Int32.toUInt32 31)).toInt32)) + ((((((((x0 - (((x0.toUInt32 >>> ((1 : Int32).toUInt32 &&& Int32.toUInt32 31)).toInt32) &&& 1431655765)) &&& 858993459) + ((((x0 - (((x0.toUInt32 >>> ((1 : Int32).toUInt32 &&& Int32.toUInt32 31)).toInt32) &&& 1431655765)).toUInt32 >>> ((2 : Int32).toUInt32 &&& Int32.toUInt32 31)).toInt32) &&& 858993459)) + (((((x0 - (((x0.toUInt32 >>> ((1 : Int32).toUInt32 &&& Int32.toUInt32 31)).toInt32) &&& 1431655765)) &&& 858993459) + ((((x0 - (((x0.toUInt32 >>> ((1 : Int32).toUInt32 &&& Int32.toUInt32 31)).toInt32) &&& 1431655765)).toUInt32 >>> ((2 : Int32).toUInt32 &&& Int32.toUInt32 31)).toInt32) &&& 858993459)).toUInt32 >>> ((4 : Int32).toUInt32 &&& Int32.toUInt32 31)).toInt32)) &&& 252645135) + (((((((x0 - (((x0.toUInt32 >>> ((1 : Int32).toUInt32 &&& Int32.toUInt32 31)).toInt32) &&& 1431655765)) &&& 858993459) + ((((x0 - (((x0.toUInt32 >>> ((1 : Int32).toUInt32 &&& Int32.toUInt32 31)).toInt32) &&& 1431655765)).toUInt32 >>> ((2 : Int32).toUInt32 &&& Int32.toUInt32 31)).toInt32) &&& 858993459)) + (((((x0 - (((x0.toUInt32 >>> ((1 : Int32).toUInt32 &&& Int32.toUInt32 31)).toInt32) &&& 1431655765)) &&& 858993459) + ((((x0 - (((x0.toUInt32 >>> ((1 : Int32).toUInt32 &&& Int32.toUInt32 31)).toInt32) &&& 1431655765)).toUInt32 >>> ((2 : Int32).toUInt32 &&& Int32.toUInt32 31)).toInt32) &&& 858993459)).toUInt32 >>> ((4 : Int32).toUInt32 &&& Int32.toUInt32 31)).toInt32)) &&& 252645135).toUInt32 >>> ((8 : Int32).toUInt32 &&& Int32.toUInt32 31)).toInt32)).toUInt32 >>> ((16 : Int32).toUInt32 &&& Int32.toUInt32 31)).toInt32)))]) hx hb dJ6_bitCount_0f7a4_47 rfl hl (by decide) rfl (fun ls hl => ?_)
  refine lv_iload_n hx hb dJ6_bitCount_0f7a4_48 rfl (lv_at hl 0 rfl) ?_
  refine lv_bipush (v := 63) hx hb dJ6_bitCount_0f7a4_49 (by decide) ?_
  refine lv_iand hx hb dJ6_bitCount_0f7a4_51 ?_
  exact W.iret (v := (((((((x0 - (((x0.toUInt32 >>> ((1 : Int32).toUInt32 &&& Int32.toUInt32 31)).toInt32) &&& 1431655765)) &&& 858993459) + ((((x0 - (((x0.toUInt32 >>> ((1 : Int32).toUInt32 &&& Int32.toUInt32 31)).toInt32) &&& 1431655765)).toUInt32 >>> ((2 : Int32).toUInt32 &&& Int32.toUInt32 31)).toInt32) &&& 858993459)) + (((((x0 - (((x0.toUInt32 >>> ((1 : Int32).toUInt32 &&& Int32.toUInt32 31)).toInt32) &&& 1431655765)) &&& 858993459) + ((((x0 - (((x0.toUInt32 >>> ((1 : Int32).toUInt32 &&& Int32.toUInt32 31)).toInt32) &&& 1431655765)).toUInt32 >>> ((2 : Int32).toUInt32 &&& Int32.toUInt32 31)).toInt32) &&& 858993459)).toUInt32 >>> ((4 : Int32).toUInt32 &&& Int32.toUInt32 31)).toInt32)) &&& 252645135) + (((((((x0 - (((x0.toUInt32 >>> ((1 : Int32).toUInt32 &&& Int32.toUInt32 31)).toInt32) &&& 1431655765)) &&& 858993459) + ((((x0 - (((x0.toUInt32 >>> ((1 : Int32).toUInt32 &&& Int32.toUInt32 31)).toInt32) &&& 1431655765)).toUInt32 >>> ((2 : Int32).toUInt32 &&& Int32.toUInt32 31)).toInt32) &&& 858993459)) + (((((x0 - (((x0.toUInt32 >>> ((1 : Int32).toUInt32 &&& Int32.toUInt32 31)).toInt32) &&& 1431655765)) &&& 858993459) + ((((x0 - (((x0.toUInt32 >>> ((1 : Int32).toUInt32 &&& Int32.toUInt32 31)).toInt32) &&& 1431655765)).toUInt32 >>> ((2 : Int32).toUInt32 &&& Int32.toUInt32 31)).toInt32) &&& 858993459)).toUInt32 >>> ((4 : Int32).toUInt32 &&& Int32.toUInt32 31)).toInt32)) &&& 252645135).toUInt32 >>> ((8 : Int32).toUInt32 &&& Int32.toUInt32 31)).toInt32)) + ((((((((x0 - (((x0.toUInt32 >>> ((1 : Int32).toUInt32 &&& Int32.toUInt32 31)).toInt32) &&& 1431655765)) &&& 858993459) + ((((x0 - (((x0.toUInt32 >>> ((1 : Int32).toUInt32 &&& Int32.toUInt32 31)).toInt32) &&& 1431655765)).toUInt32 >>> ((2 : Int32).toUInt32 &&& Int32.toUInt32 31)).toInt32) &&& 858993459)) + (((((x0 - (((x0.toUInt32 >>> ((1 : Int32).toUInt32 &&& Int32.toUInt32 31)).toInt32) &&& 1431655765)) &&& 858993459) + ((((x0 - (((x0.toUInt32 >>> ((1 : Int32).toUInt32 &&& Int32.toUInt32 31)).toInt32) &&& 1431655765)).toUInt32 >>> ((2 : Int32).toUInt32 &&& Int32.toUInt32 31)).toInt32) &&& 858993459)).toUInt32 >>> ((4 : Int32).toUInt32 &&& Int32.toUInt32 31)).toInt32)) &&& 252645135) + (((((((x0 - (((x0.toUInt32 >>> ((1 : Int32).toUInt32 &&& Int32.toUInt32 31)).toInt32) &&& 1431655765)) &&& 858993459) + ((((x0 - (((x0.toUInt32 >>> ((1 : Int32).toUInt32 &&& Int32.toUInt32 31)).toInt32) &&& 1431655765)).toUInt32 >>> ((2 : Int32).toUInt32 &&& Int32.toUInt32 31)).toInt32) &&& 858993459)) + (((((x0 - (((x0.toUInt32 >>> ((1 : Int32).toUInt32 &&& Int32.toUInt32 31)).toInt32) &&& 1431655765)) &&& 858993459) + ((((x0 - (((x0.toUInt32 >>> ((1 : Int32).toUInt32 &&& Int32.toUInt32 31)).toInt32) &&& 1431655765)).toUInt32 >>> ((2 : Int32).toUInt32 &&& Int32.toUInt32 31)).toInt32) &&& 858993459)).toUInt32 >>> ((4 : Int32).toUInt32 &&& Int32.toUInt32 31)).toInt32)) &&& 252645135).toUInt32 >>> ((8 : Int32).toUInt32 &&& Int32.toUInt32 31)).toInt32)).toUInt32 >>> ((16 : Int32).toUInt32 &&& Int32.toUInt32 31)).toInt32)) &&& 63) hx hb hr (fun t ht hW => ⟨((((((((x0 - (((x0.toUInt32 >>> ((1 : Int32).toUInt32 &&& Int32.toUInt32 31)).toInt32) &&& 1431655765)) &&& 858993459) + ((((x0 - (((x0.toUInt32 >>> ((1 : Int32).toUInt32 &&& Int32.toUInt32 31)).toInt32) &&& 1431655765)).toUInt32 >>> ((2 : Int32).toUInt32 &&& Int32.toUInt32 31)).toInt32) &&& 858993459)) + (((((x0 - (((x0.toUInt32 >>> ((1 : Int32).toUInt32 &&& Int32.toUInt32 31)).toInt32) &&& 1431655765)) &&& 858993459) + ((((x0 - (((x0.toUInt32 >>> ((1 : Int32).toUInt32 &&& Int32.toUInt32 31)).toInt32) &&& 1431655765)).toUInt32 >>> ((2 : Int32).toUInt32 &&& Int32.toUInt32 31)).toInt32) &&& 858993459)).toUInt32 >>> ((4 : Int32).toUInt32 &&& Int32.toUInt32 31)).toInt32)) &&& 252645135) + (((((((x0 - (((x0.toUInt32 >>> ((1 : Int32).toUInt32 &&& Int32.toUInt32 31)).toInt32) &&& 1431655765)) &&& 858993459) + ((((x0 - (((x0.toUInt32 >>> ((1 : Int32).toUInt32 &&& Int32.toUInt32 31)).toInt32) &&& 1431655765)).toUInt32 >>> ((2 : Int32).toUInt32 &&& Int32.toUInt32 31)).toInt32) &&& 858993459)) + (((((x0 - (((x0.toUInt32 >>> ((1 : Int32).toUInt32 &&& Int32.toUInt32 31)).toInt32) &&& 1431655765)) &&& 858993459) + ((((x0 - (((x0.toUInt32 >>> ((1 : Int32).toUInt32 &&& Int32.toUInt32 31)).toInt32) &&& 1431655765)).toUInt32 >>> ((2 : Int32).toUInt32 &&& Int32.toUInt32 31)).toInt32) &&& 858993459)).toUInt32 >>> ((4 : Int32).toUInt32 &&& Int32.toUInt32 31)).toInt32)) &&& 252645135).toUInt32 >>> ((8 : Int32).toUInt32 &&& Int32.toUInt32 31)).toInt32)) + ((((((((x0 - (((x0.toUInt32 >>> ((1 : Int32).toUInt32 &&& Int32.toUInt32 31)).toInt32) &&& 1431655765)) &&& 858993459) + ((((x0 - (((x0.toUInt32 >>> ((1 : Int32).toUInt32 &&& Int32.toUInt32 31)).toInt32) &&& 1431655765)).toUInt32 >>> ((2 : Int32).toUInt32 &&& Int32.toUInt32 31)).toInt32) &&& 858993459)) + (((((x0 - (((x0.toUInt32 >>> ((1 : Int32).toUInt32 &&& Int32.toUInt32 31)).toInt32) &&& 1431655765)) &&& 858993459) + ((((x0 - (((x0.toUInt32 >>> ((1 : Int32).toUInt32 &&& Int32.toUInt32 31)).toInt32) &&& 1431655765)).toUInt32 >>> ((2 : Int32).toUInt32 &&& Int32.toUInt32 31)).toInt32) &&& 858993459)).toUInt32 >>> ((4 : Int32).toUInt32 &&& Int32.toUInt32 31)).toInt32)) &&& 252645135) + (((((((x0 - (((x0.toUInt32 >>> ((1 : Int32).toUInt32 &&& Int32.toUInt32 31)).toInt32) &&& 1431655765)) &&& 858993459) + ((((x0 - (((x0.toUInt32 >>> ((1 : Int32).toUInt32 &&& Int32.toUInt32 31)).toInt32) &&& 1431655765)).toUInt32 >>> ((2 : Int32).toUInt32 &&& Int32.toUInt32 31)).toInt32) &&& 858993459)) + (((((x0 - (((x0.toUInt32 >>> ((1 : Int32).toUInt32 &&& Int32.toUInt32 31)).toInt32) &&& 1431655765)) &&& 858993459) + ((((x0 - (((x0.toUInt32 >>> ((1 : Int32).toUInt32 &&& Int32.toUInt32 31)).toInt32) &&& 1431655765)).toUInt32 >>> ((2 : Int32).toUInt32 &&& Int32.toUInt32 31)).toInt32) &&& 858993459)).toUInt32 >>> ((4 : Int32).toUInt32 &&& Int32.toUInt32 31)).toInt32)) &&& 252645135).toUInt32 >>> ((8 : Int32).toUInt32 &&& Int32.toUInt32 31)).toInt32)).toUInt32 >>> ((16 : Int32).toUInt32 &&& Int32.toUInt32 31)).toInt32)) &&& 63), rfl, rfl, ht⟩) (fun q h => by cases h) dJ6_bitCount_0f7a4_52

set_option maxHeartbeats 4000000 in
set_option maxRecDepth 100000 in
theorem c_X5_sum (l : Launch) (D : va_G) (cI cZ cA : ClassId) (a0 : Nat) (f0 : Nat → Int32)  : Met l yX5_sum wsX5_sum (zr 1) (va_Pc [.ref a0] (zPr D cI cZ cA [(a0, .inl (cI, 5, .inl f0))])) (vp_Si (fun r => r = sumN f0 5)) 0 0 (fun _ => False) := by
  refine Met.ofW (cc := cX5_sum) (maxL := 6) (ret := (some .int)) (by decide) rfl ?_
  intro p e s m args below meth c s₁ B hml hv
  obtain ⟨rfl, hP, hE⟩ := hv
  have hx := B.exec
  have hb := B.bytes
  have hr := B.returns
  have hts := atoms_spec (ws := wsX5_sum) B.pre
  have hown : s.vm.findClass RX5 = some m.cls := findClass_of_methodNamed B.named
  have hlocks := B.notSynchronized
  have hP : va_P D vwCl [(a0, .inl (cI, 5, .inl f0))] s.heap := hP
  have hl := lv_entry ([.ref a0]) (n := 6) (Nat.le_of_ble_eq_true rfl)
  rw [lg_entry_eq]
  generalize (lg_sl ([.ref a0]) ++ List.replicate (6 - (lg_sl ([.ref a0])).length) Slot.unset).toArray = ls at hl ⊢
  have hl : lv_has ls 6 [(0, .ref a0)] := hl
  refine lv_iconst (v := 0) hx hb dX5_sum_0 (by decide) ?_
  refine lv_istore_n (lv' := [(1, .int 0), (0, .ref a0)]) hx hb dX5_sum_1 rfl hl (by decide) rfl (fun ls hl => ?_)
  refine lv_aload_n hx hb dX5_sum_2 rfl (lv_at hl 1 rfl) ?_
  refine lv_astore_n (lv' := [(2, .ref a0), (1, .int 0), (0, .ref a0)]) hx hb dX5_sum_3 rfl hl (by decide) rfl (fun ls hl => ?_)
  refine lv_aload_n hx hb dX5_sum_4 rfl (lv_at hl 0 rfl) ?_
  refine z_alen hx hb hE hP 0 rfl dX5_sum_5 ?_
  refine lv_istore_n (lv' := [(3, .int (nI 5)), (2, .ref a0), (1, .int 0), (0, .ref a0)]) hx hb dX5_sum_6 rfl hl (by decide) rfl (fun ls hl => ?_)
  refine lv_iconst (v := 0) hx hb dX5_sum_7 (by decide) ?_
  refine lv_istore (lv' := [(4, .int 0), (3, .int (nI 5)), (2, .ref a0), (1, .int 0), (0, .ref a0)]) hx hb dX5_sum_8 hl (by decide) rfl (fun ls hl => ?_)
  have hc10_1 : ∀ (n : Nat) (i : Nat), (i ≤ 5) → (5 + 1 ≤ i + n) → ∀ (w1 : Int32), w1 = sumN f0 i → ∀ (w4 : Int32), w4 = nI i → ∀ (ls : Array Slot), lv_has ls 6 [(4, .int w4), (3, .int (nI 5)), (2, .ref a0), (1, .int w1), (0, .ref a0)] → W p l e (headSpec wsX5_sum (zr 1)).room s m ([.ref a0] : List Value).toArray below meth c s.heap [] 0 0 (MQ below (vp_Si (fun r => r = sumN f0 5)) ([.ref a0] : List Value).toArray s 0 0 (fun _ => False)) (F0 m 10 ls []) := by
    intro n
    induction n with
    | zero => intro i hi hfu; exact absurd hfu (by omega)
    | succ n ihhc10_1 =>
      intro i hi hfu w1 ew1 w4 ew4 ls hl
      subst ew1
      subst ew4
      refine lv_iload hx hb dX5_sum_10 (lv_at hl 0 rfl) ?_
      refine lv_iload_n hx hb dX5_sum_12 rfl (lv_at hl 1 rfl) ?_
      refine lv_icmp_ge (tgt := 33) hx hb dX5_sum_13 (by decide) (fun c_13 => ?_) (fun c_13 => ?_)
      · have n_13 := zn_le (a := 5) (b := i) rfl rfl c_13 (by omega) (by omega)
        obtain rfl : i = 5 := by omega
        refine lv_iload_n hx hb dX5_sum_33 rfl (lv_at hl 3 rfl) ?_
        exact W.iret (v := sumN f0 5) hx hb hr (fun t ht hW => ⟨(sumN f0 5), rfl, rfl, ht⟩) (fun q h => by cases h) dX5_sum_34
      · have n_13 := zn_nle (a := 5) (b := i) rfl rfl c_13 (by omega) (by omega)
        refine lv_aload_n hx hb dX5_sum_16 rfl (lv_at hl 2 rfl) ?_
        refine lv_iload hx hb dX5_sum_17 (lv_at hl 0 rfl) ?_
        refine z_iald hx hb hE hP 0 rfl (j := i) rfl (by omega) (by decide) dX5_sum_19 ?_
        refine lv_istore (lv' := [(5, .int (f0 i)), (4, .int (nI i)), (3, .int (nI 5)), (2, .ref a0), (1, .int (sumN f0 i)), (0, .ref a0)]) hx hb dX5_sum_20 hl (by decide) rfl (fun ls hl => ?_)
        refine lv_iload_n hx hb dX5_sum_22 rfl (lv_at hl 4 rfl) ?_
        refine lv_iload hx hb dX5_sum_23 (lv_at hl 0 rfl) ?_
        refine lv_iadd hx hb dX5_sum_25 ?_
        refine lv_istore_n (lv' := [(1, .int ((sumN f0 i) + (f0 i))), (5, .int (f0 i)), (4, .int (nI i)), (3, .int (nI 5)), (2, .ref a0), (0, .ref a0)]) hx hb dX5_sum_26 rfl hl (by decide) rfl (fun ls hl => ?_)
        refine lv_iinc (v := nI (i + 1)) (lv' := [(4, .int (nI (i + 1))), (1, .int ((sumN f0 i) + (f0 i))), (5, .int (f0 i)), (3, .int (nI 5)), (2, .ref a0), (0, .ref a0)]) hx hb dX5_sum_27 hl (k := 2) rfl (nI_add i 1) (by decide) rfl (fun ls hl => ?_)
        refine lv_goto (tgt := 10) hx hb dX5_sum_30 (by decide) ?_
        exact ihhc10_1 (i + 1) (by omega) (by omega) ((sumN f0 i) + (f0 i)) rfl (nI (i + 1)) rfl ls (lv_sub hl [0, 3, 4, 1, 5] rfl)
  exact hc10_1 (5 + 1) 0 (by omega) (by omega) 0 rfl 0 rfl ls (lv_sub hl [0, 1, 2, 3, 4] rfl)

set_option maxHeartbeats 4000000 in
set_option maxRecDepth 100000 in
theorem c_X5_greatestDivisor (l : Launch) (D : va_G) (cI cZ cA : ClassId) (x0 : Int64) (y0 : Int64)  : Met l yX5_greatestDivisor wsX5_greatestDivisor (zr 1) (va_Pc [.long x0, .long y0] (zPr D cI cZ cA [])) (vp_Sl (fun r => r = gdN 100 x0 y0)) 0 0 (fun _ => False) := by
  refine Met.ofW (cc := cX5_greatestDivisor) (maxL := 11) (ret := (some .long)) (by decide) rfl ?_
  intro p e s m args below meth c s₁ B hml hv
  obtain ⟨rfl, hP, hE⟩ := hv
  have hx := B.exec
  have hb := B.bytes
  have hr := B.returns
  have hts := atoms_spec (ws := wsX5_greatestDivisor) B.pre
  have hown : s.vm.findClass RX5 = some m.cls := findClass_of_methodNamed B.named
  have hlocks := B.notSynchronized
  have hP : va_P D vwCl [] s.heap := hP
  have hl := lv_entry ([.long x0, .long y0]) (n := 11) (Nat.le_of_ble_eq_true rfl)
  rw [lg_entry_eq]
  generalize (lg_sl ([.long x0, .long y0]) ++ List.replicate (11 - (lg_sl ([.long x0, .long y0])).length) Slot.unset).toArray = ls at hl ⊢
  have hl : lv_has ls 11 [(0, .long x0), (2, .long y0)] := hl
  refine lv_lload_n hx hb dX5_greatestDivisor_0 rfl (lv_at hl 0 rfl) ?_
  refine lv_lstore (lv' := [(4, .long x0), (0, .long x0), (2, .long y0)]) hx hb dX5_greatestDivisor_1 hl (by decide) rfl (fun ls hl => ?_)
  refine lv_lload_n hx hb dX5_greatestDivisor_3 rfl (lv_at hl 2 rfl) ?_
  refine lv_lstore (lv' := [(6, .long y0), (4, .long x0), (0, .long x0), (2, .long y0)]) hx hb dX5_greatestDivisor_4 hl (by decide) rfl (fun ls hl => ?_)
  refine lv_iconst (v := 0) hx hb dX5_greatestDivisor_6 (by decide) ?_
  refine lv_istore (lv' := [(8, .int 0), (6, .long y0), (4, .long x0), (0, .long x0), (2, .long y0)]) hx hb dX5_greatestDivisor_7 hl (by decide) rfl (fun ls hl => ?_)
  have hc9_1 : ∀ (n : Nat) (i : Nat) (a : Int64) (b : Int64), (i ≤ 100) → (gdN (100 - i) a b = gdN 100 x0 y0) → (100 + 1 ≤ i + n) → ∀ (w8 : Int32), w8 = nI i → ∀ (ls : Array Slot), lv_has ls 11 [(8, .int w8), (6, .long b), (4, .long a)] → W p l e (headSpec wsX5_greatestDivisor (zr 1)).room s m ([.long x0, .long y0] : List Value).toArray below meth c s.heap [] 0 0 (MQ below (vp_Sl (fun r => r = gdN 100 x0 y0)) ([.long x0, .long y0] : List Value).toArray s 0 0 (fun _ => False)) (F0 m 9 ls []) := by
    intro n
    induction n with
    | zero => intro i a b hi hg hfu; exact absurd hfu (by omega)
    | succ n ihhc9_1 =>
      intro i a b hi hg hfu w8 ew8 ls hl
      subst ew8
      refine lv_iload hx hb dX5_greatestDivisor_9 (lv_at hl 0 rfl) ?_
      refine lv_bipush (v := 100) hx hb dX5_greatestDivisor_11 (by decide) ?_
      refine lv_icmp_ge (tgt := 44) hx hb dX5_greatestDivisor_13 (by decide) (fun c_13 => ?_) (fun c_13 => ?_)
      · have n_13 := zn_le (a := 100) (b := i) rfl rfl c_13 (by omega) (by omega)
        obtain rfl : i = 100 := by omega
        refine lv_lload hx hb dX5_greatestDivisor_44 (lv_at hl 2 rfl) ?_
        exact W.lret (v := a) hx hb hr (fun t ht hW => ⟨a, rfl, hg, ht⟩) (fun q h => by cases h) dX5_greatestDivisor_46
      · have n_13 := zn_nle (a := 100) (b := i) rfl rfl c_13 (by omega) (by omega)
        refine lv_lload hx hb dX5_greatestDivisor_16 (lv_at hl 1 rfl) ?_
        refine lv_lconst (v := 0) hx hb dX5_greatestDivisor_18 (by decide) ?_
        refine W.lcmp hx hb dX5_greatestDivisor_19 ?_
        refine lv_if_eq (tgt := 44) hx hb dX5_greatestDivisor_20 (by decide) (fun c_20 => ?_) (fun c_20 => ?_)
        · have c_20 := zl_eq c_20
          subst c_20
          rw [gdN_z] at hg
          refine lv_lload hx hb dX5_greatestDivisor_44 (lv_at hl 2 rfl) ?_
          exact W.lret (v := a) hx hb hr (fun t ht hW => ⟨a, rfl, hg, ht⟩) (fun q h => by cases h) dX5_greatestDivisor_46
        · have c_20 := zl_ne c_20
          have hg2 : gdN (100 - (i + 1)) b (a - a / b * b) = gdN 100 x0 y0 := by
            rw [← hg, show 100 - i = (100 - (i + 1)) + 1 by omega, gdN, if_neg c_20]
          refine lv_lload hx hb dX5_greatestDivisor_23 (lv_at hl 2 rfl) ?_
          refine lv_lload hx hb dX5_greatestDivisor_25 (lv_at hl 1 rfl) ?_
          refine lv_lrem hx hb dX5_greatestDivisor_27 c_20 ?_
          refine lv_lstore (lv' := [(9, .long (a - a / b * b)), (8, .int (nI i)), (6, .long b), (4, .long a)]) hx hb dX5_greatestDivisor_28 hl (by decide) rfl (fun ls hl => ?_)
          refine lv_lload hx hb dX5_greatestDivisor_30 (lv_at hl 2 rfl) ?_
          refine lv_lstore (lv' := [(4, .long b), (9, .long (a - a / b * b)), (8, .int (nI i)), (6, .long b)]) hx hb dX5_greatestDivisor_32 hl (by decide) rfl (fun ls hl => ?_)
          refine lv_lload hx hb dX5_greatestDivisor_34 (lv_at hl 1 rfl) ?_
          refine lv_lstore (lv' := [(6, .long (a - a / b * b)), (4, .long b), (9, .long (a - a / b * b)), (8, .int (nI i))]) hx hb dX5_greatestDivisor_36 hl (by decide) rfl (fun ls hl => ?_)
          refine lv_iinc (v := nI (i + 1)) (lv' := [(8, .int (nI (i + 1))), (6, .long (a - a / b * b)), (4, .long b), (9, .long (a - a / b * b))]) hx hb dX5_greatestDivisor_38 hl (k := 3) rfl (nI_add i 1) (by decide) rfl (fun ls hl => ?_)
          refine lv_goto (tgt := 9) hx hb dX5_greatestDivisor_41 (by decide) ?_
          exact ihhc9_1 (i + 1) b (a - a / b * b) (by omega) hg2 (by omega) (nI (i + 1)) rfl ls (lv_sub hl [0, 1, 2] rfl)
  exact hc9_1 (100 + 1) 0 x0 y0 (by omega) rfl (by omega) 0 rfl ls (lv_sub hl [0, 1, 2] rfl)

set_option maxHeartbeats 4000000 in
set_option maxRecDepth 100000 in
theorem c_X2_hasKeeper (l : Launch) (D : va_G) (cI cZ cA : ClassId) (co : Nat) (akd : Nat) (afa : Nat) (ahd : Nat) (K : Nat) (Hn : Nat) (k : Int32)  : Met l yX2_hasKeeper wsX2_hasKeeper (zr 1) (va_Pc [.ref co, .int k] (zPr D cI cZ cA [(co, .inr (2, [.ref akd, .ref afa, .ref ahd, .int (nI K), .int (nI Hn)]))])) (vp_Si (fun r => r = zb (¬ k < 0 ∧ k < nI K))) 0 0 (fun _ => False) := by
  refine Met.ofW (cc := cX2_hasKeeper) (maxL := 2) (ret := (some .boolean)) (by decide) rfl ?_
  intro p e s m args below meth c s₁ B hml hv
  obtain ⟨rfl, hP, hE⟩ := hv
  have hx := B.exec
  have hb := B.bytes
  have hr := B.returns
  have hts := atoms_spec (ws := wsX2_hasKeeper) B.pre
  have hown : s.vm.findClass RX2 = some m.cls := findClass_of_methodNamed B.named
  have hlocks := B.notSynchronized
  have hP : va_P D vwCl [(co, .inr (2, [.ref akd, .ref afa, .ref ahd, .int (nI K), .int (nI Hn)]))] s.heap := hP
  have hl := lv_entry ([.ref co, .int k]) (n := 2) (Nat.le_of_ble_eq_true rfl)
  rw [lg_entry_eq]
  generalize (lg_sl ([.ref co, .int k]) ++ List.replicate (2 - (lg_sl ([.ref co, .int k])).length) Slot.unset).toArray = ls at hl ⊢
  have hl : lv_has ls 2 [(0, .ref co), (1, .int k)] := hl
  have hinX2 : ∀ w ∈ wsX20, w ∈ wsX2_hasKeeper := fun w h => List.mem_cons_of_mem _ (List.mem_append_right _ h)
  have k_0 := hts (.fieldLink RX2 33 "VowDoves$Cote" "keepers" "I") (by decide +kernel)
  refine lv_iload_n hx hb dX2_hasKeeper_0 rfl (lv_at hl 1 rfl) ?_
  refine lv_if_lt (tgt := 16) hx hb dX2_hasKeeper_1 (by decide) (fun c_1 => ?_) (fun c_1 => ?_)
  · refine lv_iconst (v := 0) hx hb dX2_hasKeeper_16 (by decide) ?_
    exact W.zret (v := 0) hx hb hr rfl (fun t ht hW => ⟨0, rfl, (by simp [zb, c_1]), ht⟩) (fun q h => by cases h) dX2_hasKeeper_17
  · refine lv_iload_n hx hb dX2_hasKeeper_4 rfl (lv_at hl 1 rfl) ?_
    refine lv_aload_n hx hb dX2_hasKeeper_5 rfl (lv_at hl 0 rfl) ?_
    refine va_get (D := D) (ci := 2) (v := .int (nI K)) (C := RX2) (T := TX2) (N := 5) hx hb hts hinX2 hown hE.1 hP 0 rfl rfl 3 (by decide) k_0 (fun _ h9 => h9) rfl dX2_hasKeeper_6 ?_
    refine lv_icmp_ge (tgt := 16) hx hb dX2_hasKeeper_9 (by decide) (fun c_9 => ?_) (fun c_9 => ?_)
    · have c_9 := Int32.not_lt.mpr c_9
      refine lv_iconst (v := 0) hx hb dX2_hasKeeper_16 (by decide) ?_
      exact W.zret (v := 0) hx hb hr rfl (fun t ht hW => ⟨0, rfl, (by simp [zb, c_1, c_9]), ht⟩) (fun q h => by cases h) dX2_hasKeeper_17
    · have c_9 := Int32.not_le.mp c_9
      refine lv_iconst (v := 1) hx hb dX2_hasKeeper_12 (by decide) ?_
      refine lv_goto (tgt := 17) hx hb dX2_hasKeeper_13 (by decide) ?_
      exact W.zret (v := 1) hx hb hr rfl (fun t ht hW => ⟨1, rfl, (by simp [zb, c_1, c_9]), ht⟩) (fun q h => by cases h) dX2_hasKeeper_17

set_option maxHeartbeats 4000000 in
set_option maxRecDepth 100000 in
theorem c_X2_hasHole (l : Launch) (D : va_G) (cI cZ cA : ClassId) (co : Nat) (akd : Nat) (afa : Nat) (ahd : Nat) (K : Nat) (Hn : Nat) (k : Int32)  : Met l yX2_hasHole wsX2_hasHole (zr 1) (va_Pc [.ref co, .int k] (zPr D cI cZ cA [(co, .inr (2, [.ref akd, .ref afa, .ref ahd, .int (nI K), .int (nI Hn)]))])) (vp_Si (fun r => r = zb (¬ k < 0 ∧ k < nI Hn))) 0 0 (fun _ => False) := by
  refine Met.ofW (cc := cX2_hasHole) (maxL := 2) (ret := (some .boolean)) (by decide) rfl ?_
  intro p e s m args below meth c s₁ B hml hv
  obtain ⟨rfl, hP, hE⟩ := hv
  have hx := B.exec
  have hb := B.bytes
  have hr := B.returns
  have hts := atoms_spec (ws := wsX2_hasHole) B.pre
  have hown : s.vm.findClass RX2 = some m.cls := findClass_of_methodNamed B.named
  have hlocks := B.notSynchronized
  have hP : va_P D vwCl [(co, .inr (2, [.ref akd, .ref afa, .ref ahd, .int (nI K), .int (nI Hn)]))] s.heap := hP
  have hl := lv_entry ([.ref co, .int k]) (n := 2) (Nat.le_of_ble_eq_true rfl)
  rw [lg_entry_eq]
  generalize (lg_sl ([.ref co, .int k]) ++ List.replicate (2 - (lg_sl ([.ref co, .int k])).length) Slot.unset).toArray = ls at hl ⊢
  have hl : lv_has ls 2 [(0, .ref co), (1, .int k)] := hl
  have hinX2 : ∀ w ∈ wsX20, w ∈ wsX2_hasHole := fun w h => List.mem_cons_of_mem _ (List.mem_append_right _ h)
  have k_0 := hts (.fieldLink RX2 39 "VowDoves$Cote" "holes" "I") (by decide +kernel)
  refine lv_iload_n hx hb dX2_hasHole_0 rfl (lv_at hl 1 rfl) ?_
  refine lv_if_lt (tgt := 16) hx hb dX2_hasHole_1 (by decide) (fun c_1 => ?_) (fun c_1 => ?_)
  · refine lv_iconst (v := 0) hx hb dX2_hasHole_16 (by decide) ?_
    exact W.zret (v := 0) hx hb hr rfl (fun t ht hW => ⟨0, rfl, (by simp [zb, c_1]), ht⟩) (fun q h => by cases h) dX2_hasHole_17
  · refine lv_iload_n hx hb dX2_hasHole_4 rfl (lv_at hl 1 rfl) ?_
    refine lv_aload_n hx hb dX2_hasHole_5 rfl (lv_at hl 0 rfl) ?_
    refine va_get (D := D) (ci := 2) (v := .int (nI Hn)) (C := RX2) (T := TX2) (N := 5) hx hb hts hinX2 hown hE.1 hP 0 rfl rfl 4 (by decide) k_0 (fun _ h9 => h9) rfl dX2_hasHole_6 ?_
    refine lv_icmp_ge (tgt := 16) hx hb dX2_hasHole_9 (by decide) (fun c_9 => ?_) (fun c_9 => ?_)
    · have c_9 := Int32.not_lt.mpr c_9
      refine lv_iconst (v := 0) hx hb dX2_hasHole_16 (by decide) ?_
      exact W.zret (v := 0) hx hb hr rfl (fun t ht hW => ⟨0, rfl, (by simp [zb, c_1, c_9]), ht⟩) (fun q h => by cases h) dX2_hasHole_17
    · have c_9 := Int32.not_le.mp c_9
      refine lv_iconst (v := 1) hx hb dX2_hasHole_12 (by decide) ?_
      refine lv_goto (tgt := 17) hx hb dX2_hasHole_13 (by decide) ?_
      exact W.zret (v := 1) hx hb hr rfl (fun t ht hW => ⟨1, rfl, (by simp [zb, c_1, c_9]), ht⟩) (fun q h => by cases h) dX2_hasHole_17

set_option maxHeartbeats 4000000 in
set_option maxRecDepth 100000 in
theorem c_X2_stands (l : Launch) (D : va_G) (cI cZ cA : ClassId) (co : Nat) (akd : Nat) (afa : Nat) (ahd : Nat) (K : Nat) (Hn : Nat) (hK : K ≤ 5) : Met l yX2_stands wsX2_stands (zr 1) (va_Pc [.ref co] (zPr D cI cZ cA [(co, .inr (2, [.ref akd, .ref afa, .ref ahd, .int (nI K), .int (nI Hn)]))])) (vp_Si (fun r => r = zb (0 < K))) 0 0 (fun _ => False) := by
  refine Met.ofW (cc := cX2_stands) (maxL := 1) (ret := (some .boolean)) (by decide) rfl ?_
  intro p e s m args below meth c s₁ B hml hv
  obtain ⟨rfl, hP, hE⟩ := hv
  have hx := B.exec
  have hb := B.bytes
  have hr := B.returns
  have hts := atoms_spec (ws := wsX2_stands) B.pre
  have hown : s.vm.findClass RX2 = some m.cls := findClass_of_methodNamed B.named
  have hlocks := B.notSynchronized
  have hP : va_P D vwCl [(co, .inr (2, [.ref akd, .ref afa, .ref ahd, .int (nI K), .int (nI Hn)]))] s.heap := hP
  have hl := lv_entry ([.ref co]) (n := 1) (Nat.le_of_ble_eq_true rfl)
  rw [lg_entry_eq]
  generalize (lg_sl ([.ref co]) ++ List.replicate (1 - (lg_sl ([.ref co])).length) Slot.unset).toArray = ls at hl ⊢
  have hl : lv_has ls 1 [(0, .ref co)] := hl
  have hinX2 : ∀ w ∈ wsX20, w ∈ wsX2_stands := fun w h => List.mem_cons_of_mem _ (List.mem_append_right _ h)
  have k_0 := hts (.fieldLink RX2 33 "VowDoves$Cote" "keepers" "I") (by decide +kernel)
  refine lv_aload_n hx hb dX2_stands_0 rfl (lv_at hl 0 rfl) ?_
  refine va_get (D := D) (ci := 2) (v := .int (nI K)) (C := RX2) (T := TX2) (N := 5) hx hb hts hinX2 hown hE.1 hP 0 rfl rfl 3 (by decide) k_0 (fun _ h9 => h9) rfl dX2_stands_1 ?_
  refine lv_if_le (tgt := 11) hx hb dX2_stands_4 (by decide) (fun c_4 => ?_) (fun c_4 => ?_)
  · have n_4 := zn_le (a := K) (b := 0) rfl rfl c_4 (by omega) (by omega)
    refine lv_iconst (v := 0) hx hb dX2_stands_11 (by decide) ?_
    exact W.zret (v := 0) hx hb hr rfl (fun t ht hW => ⟨0, rfl, (by simp [zb]; omega), ht⟩) (fun q h => by cases h) dX2_stands_12
  · have n_4 := zn_nle (a := K) (b := 0) rfl rfl c_4 (by omega) (by omega)
    refine lv_iconst (v := 1) hx hb dX2_stands_7 (by decide) ?_
    refine lv_goto (tgt := 12) hx hb dX2_stands_8 (by decide) ?_
    exact W.zret (v := 1) hx hb hr rfl (fun t ht hW => ⟨1, rfl, (by simp [zb]; omega), ht⟩) (fun q h => by cases h) dX2_stands_12

set_option maxHeartbeats 4000000 in
set_option maxRecDepth 100000 in
theorem c_X2_yearsKept (l : Launch) (D : va_G) (cI cZ cA : ClassId) (co : Nat) (akd : Nat) (afa : Nat) (ahd : Nat) (K : Nat) (Hn : Nat) (kd : Nat → Int32) (fa : Nat → Int32) (k : Int32) (hd0 : Int32) (hK : K ≤ 5) : Met l yX2_yearsKept wsX2_yearsKept (zr 3) (va_Pc [.ref co, .int k, .int hd0] (zPr D cI cZ cA [(co, .inr (2, [.ref akd, .ref afa, .ref ahd, .int (nI K), .int (nI Hn)])), (akd, .inl (cI, 5, .inl kd)), (afa, .inl (cI, 5, .inl fa))])) (vp_Si (fun r => r = ykAt K kd fa k hd0)) 0 0 (fun _ => False) := by
  refine Met.ofW (cc := cX2_yearsKept) (maxL := 3) (ret := (some .int)) (by decide) rfl ?_
  intro p e s m args below meth c s₁ B hml hv
  obtain ⟨rfl, hP, hE⟩ := hv
  have hx := B.exec
  have hb := B.bytes
  have hr := B.returns
  have hts := atoms_spec (ws := wsX2_yearsKept) B.pre
  have hown : s.vm.findClass RX2 = some m.cls := findClass_of_methodNamed B.named
  have hlocks := B.notSynchronized
  have hP : va_P D vwCl [(co, .inr (2, [.ref akd, .ref afa, .ref ahd, .int (nI K), .int (nI Hn)])), (akd, .inl (cI, 5, .inl kd)), (afa, .inl (cI, 5, .inl fa))] s.heap := hP
  have hl := lv_entry ([.ref co, .int k, .int hd0]) (n := 3) (Nat.le_of_ble_eq_true rfl)
  rw [lg_entry_eq]
  generalize (lg_sl ([.ref co, .int k, .int hd0]) ++ List.replicate (3 - (lg_sl ([.ref co, .int k, .int hd0])).length) Slot.unset).toArray = ls at hl ⊢
  have hl : lv_has ls 3 [(0, .ref co), (1, .int k), (2, .int hd0)] := hl
  have hinX2 : ∀ w ∈ wsX20, w ∈ wsX2_yearsKept := fun w h => List.mem_cons_of_mem _ (List.mem_append_right _ h)
  have k_0 := hts (.fieldLink RX2 9 "VowDoves$Cote" "kinds" "[I") (by decide +kernel)
  have k_1 := hts (.fieldLink RX2 15 "VowDoves$Cote" "faiths" "[I") (by decide +kernel)
  have k_2 := hts (.initialized RX5) (by decide +kernel)
  have k_3 := hts (.static yX5_yearsKeptBy) (by decide +kernel)
  refine lv_aload_n hx hb dX2_yearsKept_0 rfl (lv_at hl 0 rfl) ?_
  refine lv_iload_n hx hb dX2_yearsKept_1 rfl (lv_at hl 1 rfl) ?_
  refine z_roVi (As := [.int k]) (rest := []) ⟨hx, hb, hml, hown, hts⟩ (c_X2_hasKeeper l D cI cZ cA co akd afa ahd K Hn k ) (cwV 1 hts gX2_yearsKept_X2_hasKeeper rfl rfl rfl (by decide +kernel) ⟨Nat.le_of_ble_eq_true rfl, Nat.le_of_ble_eq_true rfl⟩) hE hP [0] rfl 0 2 rfl rfl rfl hl.1 rfl (Nat.le_of_ble_eq_true rfl) dX2_yearsKept_2 ⟨Nat.zero_le _, Nat.zero_le _⟩ ?_
  refine lv_if_eq (tgt := 27) hx hb dX2_yearsKept_5 (by decide) (fun c_5 => ?_) (fun c_5 => ?_)
  · have c_5 := zb_0 c_5
    refine lv_iconst (v := (-1)) hx hb dX2_yearsKept_27 (by decide) ?_
    exact W.iret (v := (-1)) hx hb hr (fun t ht hW => ⟨(-1), rfl, (by rw [ykAt, if_neg c_5]), ht⟩) (fun q h => by cases h) dX2_yearsKept_28
  · have c_5 := zb_1 c_5
    obtain ⟨j, hj, ej⟩ := z_ix c_5 (by omega)
    refine lv_aload_n hx hb dX2_yearsKept_8 rfl (lv_at hl 0 rfl) ?_
    refine va_get (D := D) (ci := 2) (v := .ref akd) (C := RX2) (T := TX2) (N := 5) hx hb hts hinX2 hown hE.1 hP 0 rfl rfl 0 (by decide) k_0 (fun _ h9 => h9) rfl dX2_yearsKept_9 ?_
    refine lv_iload_n hx hb dX2_yearsKept_12 rfl (lv_at hl 1 rfl) ?_
    refine z_iald hx hb hE hP 1 rfl (j := j) ej (by omega) (by decide) dX2_yearsKept_13 ?_
    refine lv_aload_n hx hb dX2_yearsKept_14 rfl (lv_at hl 0 rfl) ?_
    refine va_get (D := D) (ci := 2) (v := .ref afa) (C := RX2) (T := TX2) (N := 5) hx hb hts hinX2 hown hE.1 hP 0 rfl rfl 1 (by decide) k_1 (fun _ h9 => h9) rfl dX2_yearsKept_15 ?_
    refine lv_iload_n hx hb dX2_yearsKept_18 rfl (lv_at hl 1 rfl) ?_
    refine z_iald hx hb hE hP 2 rfl (j := j) ej (by omega) (by decide) dX2_yearsKept_19 ?_
    refine lv_iload_n hx hb dX2_yearsKept_20 rfl (lv_at hl 2 rfl) ?_
    refine z_roNi (As := [.int (kd j), .int (fa j), .int hd0]) (rest := []) ⟨hx, hb, hml, hown, hts⟩ (c_X5_yearsKeptBy l D cI cZ cA (kd j) (fa j) hd0 ) ⟨va_cnB 3 hts ggX2_yearsKept_X5_yearsKeptBy rfl rfl rfl hE.2.2.2.2.2.1 k_2 (by decide +kernel) ⟨Nat.le_of_ble_eq_true rfl, Nat.le_of_ble_eq_true rfl⟩, k_3, trivial⟩ hE hP [] rfl rfl hl.1 rfl (Nat.le_of_ble_eq_true rfl) dX2_yearsKept_21 ⟨Nat.zero_le _, Nat.zero_le _⟩ ?_
    refine lv_goto (tgt := 28) hx hb dX2_yearsKept_24 (by decide) ?_
    exact W.iret (v := (yk (kd j) (fa j) hd0)) hx hb hr (fun t ht hW => ⟨(yk (kd j) (fa j) hd0), rfl, (by rw [ykAt, if_pos c_5, ej, nI_clamp (by omega)]), ht⟩) (fun q h => by cases h) dX2_yearsKept_28

set_option maxHeartbeats 4000000 in
set_option maxRecDepth 100000 in
theorem c_X2_eggsOfAYear (l : Launch) (D : va_G) (cI cZ cA : ClassId) (co : Nat) (akd : Nat) (afa : Nat) (ahd : Nat) (K : Nat) (Hn : Nat) (kd : Nat → Int32) (k : Int32) (hK : K ≤ 5) : Met l yX2_eggsOfAYear wsX2_eggsOfAYear (zr 2) (va_Pc [.ref co, .int k] (zPr D cI cZ cA [(co, .inr (2, [.ref akd, .ref afa, .ref ahd, .int (nI K), .int (nI Hn)])), (akd, .inl (cI, 5, .inl kd))])) (vp_Si (fun r => r = eggY K kd k)) 0 0 (fun _ => False) := by
  refine Met.ofW (cc := cX2_eggsOfAYear) (maxL := 2) (ret := (some .int)) (by decide) rfl ?_
  intro p e s m args below meth c s₁ B hml hv
  obtain ⟨rfl, hP, hE⟩ := hv
  have hx := B.exec
  have hb := B.bytes
  have hr := B.returns
  have hts := atoms_spec (ws := wsX2_eggsOfAYear) B.pre
  have hown : s.vm.findClass RX2 = some m.cls := findClass_of_methodNamed B.named
  have hlocks := B.notSynchronized
  have hP : va_P D vwCl [(co, .inr (2, [.ref akd, .ref afa, .ref ahd, .int (nI K), .int (nI Hn)])), (akd, .inl (cI, 5, .inl kd))] s.heap := hP
  have hl := lv_entry ([.ref co, .int k]) (n := 2) (Nat.le_of_ble_eq_true rfl)
  rw [lg_entry_eq]
  generalize (lg_sl ([.ref co, .int k]) ++ List.replicate (2 - (lg_sl ([.ref co, .int k])).length) Slot.unset).toArray = ls at hl ⊢
  have hl : lv_has ls 2 [(0, .ref co), (1, .int k)] := hl
  have hinX2 : ∀ w ∈ wsX20, w ∈ wsX2_eggsOfAYear := fun w h => List.mem_cons_of_mem _ (List.mem_append_right _ h)
  have k_0 := hts (.fieldLink RX2 9 "VowDoves$Cote" "kinds" "[I") (by decide +kernel)
  have k_1 := hts (.initialized RX5) (by decide +kernel)
  have k_2 := hts (.static yX5_isOfKind) (by decide +kernel)
  refine lv_aload_n hx hb dX2_eggsOfAYear_0 rfl (lv_at hl 0 rfl) ?_
  refine lv_iload_n hx hb dX2_eggsOfAYear_1 rfl (lv_at hl 1 rfl) ?_
  refine z_roVi (As := [.int k]) (rest := []) ⟨hx, hb, hml, hown, hts⟩ (c_X2_hasKeeper l D cI cZ cA co akd afa ahd K Hn k ) (cwV 1 hts gX2_eggsOfAYear_X2_hasKeeper rfl rfl rfl (by decide +kernel) ⟨Nat.le_of_ble_eq_true rfl, Nat.le_of_ble_eq_true rfl⟩) hE hP [0] rfl 0 2 rfl rfl rfl hl.1 rfl (Nat.le_of_ble_eq_true rfl) dX2_eggsOfAYear_2 ⟨Nat.zero_le _, Nat.zero_le _⟩ ?_
  refine lv_if_eq (tgt := 25) hx hb dX2_eggsOfAYear_5 (by decide) (fun c_5 => ?_) (fun c_5 => ?_)
  · have c_5 := zb_0 c_5
    refine lv_iconst (v := 1) hx hb dX2_eggsOfAYear_25 (by decide) ?_
    exact W.iret (v := 1) hx hb hr (fun t ht hW => ⟨1, rfl, (by rw [eggY, if_neg (fun h => c_5 h.1)]), ht⟩) (fun q h => by cases h) dX2_eggsOfAYear_26
  · have c_5 := zb_1 c_5
    obtain ⟨j, hj, ej⟩ := z_ix c_5 (by omega)
    have hcl : k.toNatClampNeg = j := by rw [ej, nI_clamp (by omega)]
    refine lv_aload_n hx hb dX2_eggsOfAYear_8 rfl (lv_at hl 0 rfl) ?_
    refine va_get (D := D) (ci := 2) (v := .ref akd) (C := RX2) (T := TX2) (N := 5) hx hb hts hinX2 hown hE.1 hP 0 rfl rfl 0 (by decide) k_0 (fun _ h9 => h9) rfl dX2_eggsOfAYear_9 ?_
    refine lv_iload_n hx hb dX2_eggsOfAYear_12 rfl (lv_at hl 1 rfl) ?_
    refine z_iald hx hb hE hP 1 rfl (j := j) ej (by omega) (by decide) dX2_eggsOfAYear_13 ?_
    refine lv_iconst (v := 2) hx hb dX2_eggsOfAYear_14 (by decide) ?_
    refine z_roNi (As := [.int (kd j), .int 2]) (rest := []) ⟨hx, hb, hml, hown, hts⟩ (c_X5_isOfKind l D cI cZ cA (kd j) 2 ) ⟨va_cnB 2 hts ggX2_eggsOfAYear_X5_isOfKind rfl rfl rfl hE.2.2.2.2.2.2.1 k_1 (by decide +kernel) ⟨Nat.le_of_ble_eq_true rfl, Nat.le_of_ble_eq_true rfl⟩, k_2, trivial⟩ hE hP [] rfl rfl hl.1 rfl (Nat.le_of_ble_eq_true rfl) dX2_eggsOfAYear_15 ⟨Nat.zero_le _, Nat.zero_le _⟩ ?_
    refine lv_if_eq (tgt := 25) hx hb dX2_eggsOfAYear_18 (by decide) (fun c_18 => ?_) (fun c_18 => ?_)
    · have c_18 := zb_0 c_18
      simp at c_18
      refine lv_iconst (v := 1) hx hb dX2_eggsOfAYear_25 (by decide) ?_
      exact W.iret (v := 1) hx hb hr (fun t ht hW => ⟨1, rfl, (by rw [eggY]; simp [c_5, hcl, c_18]), ht⟩) (fun q h => by cases h) dX2_eggsOfAYear_26
    · have c_18 := zb_1 c_18
      simp at c_18
      refine lv_iconst (v := 0) hx hb dX2_eggsOfAYear_21 (by decide) ?_
      refine lv_goto (tgt := 26) hx hb dX2_eggsOfAYear_22 (by decide) ?_
      exact W.iret (v := 0) hx hb hr (fun t ht hW => ⟨0, rfl, (by rw [eggY]; simp [c_5, hcl, c_18]), ht⟩) (fun q h => by cases h) dX2_eggsOfAYear_26

set_option maxHeartbeats 4000000 in
set_option maxRecDepth 100000 in
theorem c_X0_holesOf (l : Launch) (D : va_G) (cI cZ cA : ClassId) (bk : Nat) (alt : Nat) (abd : Nat) (aeg : Nat) (abr : Nat) (ask : Nat) (ash : Nat) (ast : Nat) (sn : Nat) (yr : Int32) (lt : Nat → Int32) (k : Int32)  : Met l yX0_holesOf wsX0_holesOf (zr 1) (va_Pc [.ref bk, .int k] (zPr D cI cZ cA [(bk, .inr (0, [.ref alt, .ref abd, .ref aeg, .ref abr, .ref ask, .ref ash, .ref ast, .int (nI sn), .int yr])), (alt, .inl (cI, 5, .inl lt))])) (vp_Si (fun r => r = hOfN lt k 5)) 0 0 (fun _ => False) := by
  refine Met.ofW (cc := cX0_holesOf) (maxL := 4) (ret := (some .int)) (by decide) rfl ?_
  intro p e s m args below meth c s₁ B hml hv
  obtain ⟨rfl, hP, hE⟩ := hv
  have hx := B.exec
  have hb := B.bytes
  have hr := B.returns
  have hts := atoms_spec (ws := wsX0_holesOf) B.pre
  have hown : s.vm.findClass RX0 = some m.cls := findClass_of_methodNamed B.named
  have hlocks := B.notSynchronized
  have hP : va_P D vwCl [(bk, .inr (0, [.ref alt, .ref abd, .ref aeg, .ref abr, .ref ask, .ref ash, .ref ast, .int (nI sn), .int yr])), (alt, .inl (cI, 5, .inl lt))] s.heap := hP
  have hl := lv_entry ([.ref bk, .int k]) (n := 4) (Nat.le_of_ble_eq_true rfl)
  rw [lg_entry_eq]
  generalize (lg_sl ([.ref bk, .int k]) ++ List.replicate (4 - (lg_sl ([.ref bk, .int k])).length) Slot.unset).toArray = ls at hl ⊢
  have hl : lv_has ls 4 [(0, .ref bk), (1, .int k)] := hl
  have hinX0 : ∀ w ∈ wsX00, w ∈ wsX0_holesOf := fun w h => List.mem_cons_of_mem _ (List.mem_append_right _ h)
  have k_0 := hts (.fieldLink RX0 9 "VowDoves$Book" "letTo" "[I") (by decide +kernel)
  refine lv_iconst (v := 0) hx hb dX0_holesOf_0 (by decide) ?_
  refine lv_istore_n (lv' := [(2, .int 0), (0, .ref bk), (1, .int k)]) hx hb dX0_holesOf_1 rfl hl (by decide) rfl (fun ls hl => ?_)
  refine lv_iconst (v := 0) hx hb dX0_holesOf_2 (by decide) ?_
  refine lv_istore_n (lv' := [(3, .int 0), (2, .int 0), (0, .ref bk), (1, .int k)]) hx hb dX0_holesOf_3 rfl hl (by decide) rfl (fun ls hl => ?_)
  have hc4_1 : ∀ (n : Nat) (i : Nat), (i ≤ 5) → (5 + 1 ≤ i + n) → ∀ (w2 : Int32), w2 = hOfN lt k i → ∀ (w3 : Int32), w3 = nI i → ∀ (ls : Array Slot), lv_has ls 4 [(3, .int w3), (2, .int w2), (0, .ref bk), (1, .int k)] → W p l e (headSpec wsX0_holesOf (zr 1)).room s m ([.ref bk, .int k] : List Value).toArray below meth c s.heap [] 0 0 (MQ below (vp_Si (fun r => r = hOfN lt k 5)) ([.ref bk, .int k] : List Value).toArray s 0 0 (fun _ => False)) (F0 m 4 ls []) := by
    intro n
    induction n with
    | zero => intro i hi hfu; exact absurd hfu (by omega)
    | succ n ihhc4_1 =>
      intro i hi hfu w2 ew2 w3 ew3 ls hl
      subst ew2
      subst ew3
      refine lv_iload_n hx hb dX0_holesOf_4 rfl (lv_at hl 0 rfl) ?_
      refine lv_iconst (v := 5) hx hb dX0_holesOf_5 (by decide) ?_
      refine lv_icmp_ge (tgt := 31) hx hb dX0_holesOf_6 (by decide) (fun c_6 => ?_) (fun c_6 => ?_)
      · have n_6 := zn_le (a := 5) (b := i) rfl rfl c_6 (by omega) (by omega)
        obtain rfl : i = 5 := by omega
        refine lv_iload_n hx hb dX0_holesOf_31 rfl (lv_at hl 1 rfl) ?_
        exact W.iret (v := hOfN lt k 5) hx hb hr (fun t ht hW => ⟨(hOfN lt k 5), rfl, rfl, ht⟩) (fun q h => by cases h) dX0_holesOf_32
      · have n_6 := zn_nle (a := 5) (b := i) rfl rfl c_6 (by omega) (by omega)
        refine lv_aload_n hx hb dX0_holesOf_9 rfl (lv_at hl 2 rfl) ?_
        refine va_get (D := D) (ci := 0) (v := .ref alt) (C := RX0) (T := TX0) (N := 9) hx hb hts hinX0 hown hE.1 hP 0 rfl rfl 0 (by decide) k_0 (fun _ h9 => h9) rfl dX0_holesOf_10 ?_
        refine lv_iload_n hx hb dX0_holesOf_13 rfl (lv_at hl 0 rfl) ?_
        refine z_iald hx hb hE hP 1 rfl (j := i) rfl (by omega) (by decide) dX0_holesOf_14 ?_
        refine lv_iload_n hx hb dX0_holesOf_15 rfl (lv_at hl 3 rfl) ?_
        refine lv_icmp_ne (tgt := 25) hx hb dX0_holesOf_16 (by decide) (fun c_16 => ?_) (fun c_16 => ?_)
        · refine lv_iinc (v := nI (i + 1)) (lv' := [(3, .int (nI (i + 1))), (2, .int (hOfN lt k i)), (0, .ref bk), (1, .int k)]) hx hb dX0_holesOf_25 hl (k := 0) rfl (nI_add i 1) (by decide) rfl (fun ls hl => ?_)
          refine lv_goto (tgt := 4) hx hb dX0_holesOf_28 (by decide) ?_
          exact ihhc4_1 (i + 1) (by omega) (by omega) (hOfN lt k i) (by simp [hOfN, c_16]) (nI (i + 1)) rfl ls (lv_sub hl [0, 1, 2, 3] rfl)
        · refine lv_iload_n hx hb dX0_holesOf_19 rfl (lv_at hl 1 rfl) ?_
          refine lv_iconst (v := 1) hx hb dX0_holesOf_20 (by decide) ?_
          refine lv_iload_n hx hb dX0_holesOf_21 rfl (lv_at hl 0 rfl) ?_
          refine lv_ishl hx hb dX0_holesOf_22 ?_
          refine lv_ior hx hb dX0_holesOf_23 ?_
          refine lv_istore_n (lv' := [(2, .int ((hOfN lt k i) ||| (1 <<< ((nI i) &&& 31)))), (3, .int (nI i)), (0, .ref bk), (1, .int k)]) hx hb dX0_holesOf_24 rfl hl (by decide) rfl (fun ls hl => ?_)
          refine lv_iinc (v := nI (i + 1)) (lv' := [(3, .int (nI (i + 1))), (2, .int ((hOfN lt k i) ||| (1 <<< ((nI i) &&& 31)))), (0, .ref bk), (1, .int k)]) hx hb dX0_holesOf_25 hl (k := 1) rfl (nI_add i 1) (by decide) rfl (fun ls hl => ?_)
          refine lv_goto (tgt := 4) hx hb dX0_holesOf_28 (by decide) ?_
          exact ihhc4_1 (i + 1) (by omega) (by omega) ((hOfN lt k i) ||| (1 <<< ((nI i) &&& 31))) (by simp [hOfN, c_16]) (nI (i + 1)) rfl ls (lv_sub hl [0, 1, 2, 3] rfl)
  exact hc4_1 (5 + 1) 0 (by omega) (by omega) 0 rfl 0 rfl ls (lv_sub hl [0, 1, 2, 3] rfl)

set_option maxHeartbeats 4000000 in
set_option maxRecDepth 100000 in
theorem c_X0_eggsOf (l : Launch) (D : va_G) (cI cZ cA : ClassId) (bk : Nat) (alt : Nat) (abd : Nat) (aeg : Nat) (abr : Nat) (ask : Nat) (ash : Nat) (ast : Nat) (sn : Nat) (yr : Int32) (lt : Nat → Int32) (eg : Nat → Int32) (k : Int32)  : Met l yX0_eggsOf wsX0_eggsOf (zr 1) (va_Pc [.ref bk, .int k] (zPr D cI cZ cA [(bk, .inr (0, [.ref alt, .ref abd, .ref aeg, .ref abr, .ref ask, .ref ash, .ref ast, .int (nI sn), .int yr])), (alt, .inl (cI, 5, .inl lt)), (aeg, .inl (cI, 5, .inl eg))])) (vp_Si (fun r => r = eOfN lt eg k 5)) 0 0 (fun _ => False) := by
  refine Met.ofW (cc := cX0_eggsOf) (maxL := 4) (ret := (some .int)) (by decide) rfl ?_
  intro p e s m args below meth c s₁ B hml hv
  obtain ⟨rfl, hP, hE⟩ := hv
  have hx := B.exec
  have hb := B.bytes
  have hr := B.returns
  have hts := atoms_spec (ws := wsX0_eggsOf) B.pre
  have hown : s.vm.findClass RX0 = some m.cls := findClass_of_methodNamed B.named
  have hlocks := B.notSynchronized
  have hP : va_P D vwCl [(bk, .inr (0, [.ref alt, .ref abd, .ref aeg, .ref abr, .ref ask, .ref ash, .ref ast, .int (nI sn), .int yr])), (alt, .inl (cI, 5, .inl lt)), (aeg, .inl (cI, 5, .inl eg))] s.heap := hP
  have hl := lv_entry ([.ref bk, .int k]) (n := 4) (Nat.le_of_ble_eq_true rfl)
  rw [lg_entry_eq]
  generalize (lg_sl ([.ref bk, .int k]) ++ List.replicate (4 - (lg_sl ([.ref bk, .int k])).length) Slot.unset).toArray = ls at hl ⊢
  have hl : lv_has ls 4 [(0, .ref bk), (1, .int k)] := hl
  have hinX0 : ∀ w ∈ wsX00, w ∈ wsX0_eggsOf := fun w h => List.mem_cons_of_mem _ (List.mem_append_right _ h)
  have k_0 := hts (.fieldLink RX0 9 "VowDoves$Book" "letTo" "[I") (by decide +kernel)
  have k_1 := hts (.fieldLink RX0 18 "VowDoves$Book" "eggs" "[I") (by decide +kernel)
  refine lv_iconst (v := 0) hx hb dX0_eggsOf_0 (by decide) ?_
  refine lv_istore_n (lv' := [(2, .int 0), (0, .ref bk), (1, .int k)]) hx hb dX0_eggsOf_1 rfl hl (by decide) rfl (fun ls hl => ?_)
  refine lv_iconst (v := 0) hx hb dX0_eggsOf_2 (by decide) ?_
  refine lv_istore_n (lv' := [(3, .int 0), (2, .int 0), (0, .ref bk), (1, .int k)]) hx hb dX0_eggsOf_3 rfl hl (by decide) rfl (fun ls hl => ?_)
  have hc4_1 : ∀ (n : Nat) (i : Nat), (i ≤ 5) → (5 + 1 ≤ i + n) → ∀ (w2 : Int32), w2 = eOfN lt eg k i → ∀ (w3 : Int32), w3 = nI i → ∀ (ls : Array Slot), lv_has ls 4 [(3, .int w3), (2, .int w2), (0, .ref bk), (1, .int k)] → W p l e (headSpec wsX0_eggsOf (zr 1)).room s m ([.ref bk, .int k] : List Value).toArray below meth c s.heap [] 0 0 (MQ below (vp_Si (fun r => r = eOfN lt eg k 5)) ([.ref bk, .int k] : List Value).toArray s 0 0 (fun _ => False)) (F0 m 4 ls []) := by
    intro n
    induction n with
    | zero => intro i hi hfu; exact absurd hfu (by omega)
    | succ n ihhc4_1 =>
      intro i hi hfu w2 ew2 w3 ew3 ls hl
      subst ew2
      subst ew3
      refine lv_iload_n hx hb dX0_eggsOf_4 rfl (lv_at hl 0 rfl) ?_
      refine lv_iconst (v := 5) hx hb dX0_eggsOf_5 (by decide) ?_
      refine lv_icmp_ge (tgt := 34) hx hb dX0_eggsOf_6 (by decide) (fun c_6 => ?_) (fun c_6 => ?_)
      · have n_6 := zn_le (a := 5) (b := i) rfl rfl c_6 (by omega) (by omega)
        obtain rfl : i = 5 := by omega
        refine lv_iload_n hx hb dX0_eggsOf_34 rfl (lv_at hl 1 rfl) ?_
        exact W.iret (v := eOfN lt eg k 5) hx hb hr (fun t ht hW => ⟨(eOfN lt eg k 5), rfl, rfl, ht⟩) (fun q h => by cases h) dX0_eggsOf_35
      · have n_6 := zn_nle (a := 5) (b := i) rfl rfl c_6 (by omega) (by omega)
        refine lv_aload_n hx hb dX0_eggsOf_9 rfl (lv_at hl 2 rfl) ?_
        refine va_get (D := D) (ci := 0) (v := .ref alt) (C := RX0) (T := TX0) (N := 9) hx hb hts hinX0 hown hE.1 hP 0 rfl rfl 0 (by decide) k_0 (fun _ h9 => h9) rfl dX0_eggsOf_10 ?_
        refine lv_iload_n hx hb dX0_eggsOf_13 rfl (lv_at hl 0 rfl) ?_
        refine z_iald hx hb hE hP 1 rfl (j := i) rfl (by omega) (by decide) dX0_eggsOf_14 ?_
        refine lv_iload_n hx hb dX0_eggsOf_15 rfl (lv_at hl 3 rfl) ?_
        refine lv_icmp_ne (tgt := 28) hx hb dX0_eggsOf_16 (by decide) (fun c_16 => ?_) (fun c_16 => ?_)
        · refine lv_iinc (v := nI (i + 1)) (lv' := [(3, .int (nI (i + 1))), (2, .int (eOfN lt eg k i)), (0, .ref bk), (1, .int k)]) hx hb dX0_eggsOf_28 hl (k := 0) rfl (nI_add i 1) (by decide) rfl (fun ls hl => ?_)
          refine lv_goto (tgt := 4) hx hb dX0_eggsOf_31 (by decide) ?_
          exact ihhc4_1 (i + 1) (by omega) (by omega) (eOfN lt eg k i) (by simp [eOfN, c_16]) (nI (i + 1)) rfl ls (lv_sub hl [0, 1, 2, 3] rfl)
        · refine lv_iload_n hx hb dX0_eggsOf_19 rfl (lv_at hl 1 rfl) ?_
          refine lv_aload_n hx hb dX0_eggsOf_20 rfl (lv_at hl 2 rfl) ?_
          refine va_get (D := D) (ci := 0) (v := .ref aeg) (C := RX0) (T := TX0) (N := 9) hx hb hts hinX0 hown hE.1 hP 0 rfl rfl 2 (by decide) k_1 (fun _ h9 => h9) rfl dX0_eggsOf_21 ?_
          refine lv_iload_n hx hb dX0_eggsOf_24 rfl (lv_at hl 0 rfl) ?_
          refine z_iald hx hb hE hP 2 rfl (j := i) rfl (by omega) (by decide) dX0_eggsOf_25 ?_
          refine lv_iadd hx hb dX0_eggsOf_26 ?_
          refine lv_istore_n (lv' := [(2, .int ((eOfN lt eg k i) + (eg i))), (3, .int (nI i)), (0, .ref bk), (1, .int k)]) hx hb dX0_eggsOf_27 rfl hl (by decide) rfl (fun ls hl => ?_)
          refine lv_iinc (v := nI (i + 1)) (lv' := [(3, .int (nI (i + 1))), (2, .int ((eOfN lt eg k i) + (eg i))), (0, .ref bk), (1, .int k)]) hx hb dX0_eggsOf_28 hl (k := 1) rfl (nI_add i 1) (by decide) rfl (fun ls hl => ?_)
          refine lv_goto (tgt := 4) hx hb dX0_eggsOf_31 (by decide) ?_
          exact ihhc4_1 (i + 1) (by omega) (by omega) ((eOfN lt eg k i) + (eg i)) (by simp [eOfN, c_16]) (nI (i + 1)) rfl ls (lv_sub hl [0, 1, 2, 3] rfl)
  exact hc4_1 (5 + 1) 0 (by omega) (by omega) 0 rfl 0 rfl ls (lv_sub hl [0, 1, 2, 3] rfl)

set_option maxHeartbeats 4000000 in
set_option maxRecDepth 100000 in
theorem c_X0_holesWith (l : Launch) (D : va_G) (cI cZ cA : ClassId) (bk : Nat) (alt : Nat) (abd : Nat) (aeg : Nat) (abr : Nat) (ask : Nat) (ash : Nat) (ast : Nat) (sn : Nat) (yr : Int32) (bd : Nat → Int32) (b : Int32)  : Met l yX0_holesWith wsX0_holesWith (zr 1) (va_Pc [.ref bk, .int b] (zPr D cI cZ cA [(bk, .inr (0, [.ref alt, .ref abd, .ref aeg, .ref abr, .ref ask, .ref ash, .ref ast, .int (nI sn), .int yr])), (abd, .inl (cI, 5, .inl bd))])) (vp_Si (fun r => r = cntN bd b 5)) 0 0 (fun _ => False) := by
  refine Met.ofW (cc := cX0_holesWith) (maxL := 7) (ret := (some .int)) (by decide) rfl ?_
  intro p e s m args below meth c s₁ B hml hv
  obtain ⟨rfl, hP, hE⟩ := hv
  have hx := B.exec
  have hb := B.bytes
  have hr := B.returns
  have hts := atoms_spec (ws := wsX0_holesWith) B.pre
  have hown : s.vm.findClass RX0 = some m.cls := findClass_of_methodNamed B.named
  have hlocks := B.notSynchronized
  have hP : va_P D vwCl [(bk, .inr (0, [.ref alt, .ref abd, .ref aeg, .ref abr, .ref ask, .ref ash, .ref ast, .int (nI sn), .int yr])), (abd, .inl (cI, 5, .inl bd))] s.heap := hP
  have hl := lv_entry ([.ref bk, .int b]) (n := 7) (Nat.le_of_ble_eq_true rfl)
  rw [lg_entry_eq]
  generalize (lg_sl ([.ref bk, .int b]) ++ List.replicate (7 - (lg_sl ([.ref bk, .int b])).length) Slot.unset).toArray = ls at hl ⊢
  have hl : lv_has ls 7 [(0, .ref bk), (1, .int b)] := hl
  have hinX0 : ∀ w ∈ wsX00, w ∈ wsX0_holesWith := fun w h => List.mem_cons_of_mem _ (List.mem_append_right _ h)
  have k_0 := hts (.fieldLink RX0 15 "VowDoves$Book" "birds" "[I") (by decide +kernel)
  refine lv_iconst (v := 0) hx hb dX0_holesWith_0 (by decide) ?_
  refine lv_istore_n (lv' := [(2, .int 0), (0, .ref bk), (1, .int b)]) hx hb dX0_holesWith_1 rfl hl (by decide) rfl (fun ls hl => ?_)
  refine lv_aload_n hx hb dX0_holesWith_2 rfl (lv_at hl 1 rfl) ?_
  refine va_get (D := D) (ci := 0) (v := .ref abd) (C := RX0) (T := TX0) (N := 9) hx hb hts hinX0 hown hE.1 hP 0 rfl rfl 1 (by decide) k_0 (fun _ h9 => h9) rfl dX0_holesWith_3 ?_
  refine lv_astore_n (lv' := [(3, .ref abd), (2, .int 0), (0, .ref bk), (1, .int b)]) hx hb dX0_holesWith_6 rfl hl (by decide) rfl (fun ls hl => ?_)
  refine lv_aload_n hx hb dX0_holesWith_7 rfl (lv_at hl 0 rfl) ?_
  refine z_alen hx hb hE hP 1 rfl dX0_holesWith_8 ?_
  refine lv_istore (lv' := [(4, .int (nI 5)), (3, .ref abd), (2, .int 0), (0, .ref bk), (1, .int b)]) hx hb dX0_holesWith_9 hl (by decide) rfl (fun ls hl => ?_)
  refine lv_iconst (v := 0) hx hb dX0_holesWith_11 (by decide) ?_
  refine lv_istore (lv' := [(5, .int 0), (4, .int (nI 5)), (3, .ref abd), (2, .int 0), (0, .ref bk), (1, .int b)]) hx hb dX0_holesWith_12 hl (by decide) rfl (fun ls hl => ?_)
  have hc14_1 : ∀ (n : Nat) (i : Nat), (i ≤ 5) → (5 + 1 ≤ i + n) → ∀ (w2 : Int32), w2 = cntN bd b i → ∀ (w5 : Int32), w5 = nI i → ∀ (ls : Array Slot), lv_has ls 7 [(5, .int w5), (4, .int (nI 5)), (3, .ref abd), (2, .int w2), (0, .ref bk), (1, .int b)] → W p l e (headSpec wsX0_holesWith (zr 1)).room s m ([.ref bk, .int b] : List Value).toArray below meth c s.heap [] 0 0 (MQ below (vp_Si (fun r => r = cntN bd b 5)) ([.ref bk, .int b] : List Value).toArray s 0 0 (fun _ => False)) (F0 m 14 ls []) := by
    intro n
    induction n with
    | zero => intro i hi hfu; exact absurd hfu (by omega)
    | succ n ihhc14_1 =>
      intro i hi hfu w2 ew2 w5 ew5 ls hl
      subst ew2
      subst ew5
      refine lv_iload hx hb dX0_holesWith_14 (lv_at hl 0 rfl) ?_
      refine lv_iload hx hb dX0_holesWith_16 (lv_at hl 1 rfl) ?_
      refine lv_icmp_ge (tgt := 42) hx hb dX0_holesWith_18 (by decide) (fun c_18 => ?_) (fun c_18 => ?_)
      · have n_18 := zn_le (a := 5) (b := i) rfl rfl c_18 (by omega) (by omega)
        obtain rfl : i = 5 := by omega
        refine lv_iload_n hx hb dX0_holesWith_42 rfl (lv_at hl 3 rfl) ?_
        exact W.iret (v := cntN bd b 5) hx hb hr (fun t ht hW => ⟨(cntN bd b 5), rfl, rfl, ht⟩) (fun q h => by cases h) dX0_holesWith_43
      · have n_18 := zn_nle (a := 5) (b := i) rfl rfl c_18 (by omega) (by omega)
        refine lv_aload_n hx hb dX0_holesWith_21 rfl (lv_at hl 2 rfl) ?_
        refine lv_iload hx hb dX0_holesWith_22 (lv_at hl 0 rfl) ?_
        refine z_iald hx hb hE hP 1 rfl (j := i) rfl (by omega) (by decide) dX0_holesWith_24 ?_
        refine lv_istore (lv' := [(6, .int (bd i)), (5, .int (nI i)), (4, .int (nI 5)), (3, .ref abd), (2, .int (cntN bd b i)), (0, .ref bk), (1, .int b)]) hx hb dX0_holesWith_25 hl (by decide) rfl (fun ls hl => ?_)
        refine lv_iload hx hb dX0_holesWith_27 (lv_at hl 0 rfl) ?_
        refine lv_iload_n hx hb dX0_holesWith_29 rfl (lv_at hl 6 rfl) ?_
        refine lv_icmp_ne (tgt := 36) hx hb dX0_holesWith_30 (by decide) (fun c_30 => ?_) (fun c_30 => ?_)
        · refine lv_iinc (v := nI (i + 1)) (lv' := [(5, .int (nI (i + 1))), (6, .int (bd i)), (4, .int (nI 5)), (3, .ref abd), (2, .int (cntN bd b i)), (0, .ref bk), (1, .int b)]) hx hb dX0_holesWith_36 hl (k := 1) rfl (nI_add i 1) (by decide) rfl (fun ls hl => ?_)
          refine lv_goto (tgt := 14) hx hb dX0_holesWith_39 (by decide) ?_
          exact ihhc14_1 (i + 1) (by omega) (by omega) (cntN bd b i) (by simp [cntN, c_30]) (nI (i + 1)) rfl ls (lv_sub hl [0, 2, 3, 4, 5, 6] rfl)
        · refine lv_iinc (v := (cntN bd b i) + 1) (lv' := [(2, .int ((cntN bd b i) + 1)), (6, .int (bd i)), (5, .int (nI i)), (4, .int (nI 5)), (3, .ref abd), (0, .ref bk), (1, .int b)]) hx hb dX0_holesWith_33 hl (k := 4) rfl rfl (by decide) rfl (fun ls hl => ?_)
          refine lv_iinc (v := nI (i + 1)) (lv' := [(5, .int (nI (i + 1))), (2, .int ((cntN bd b i) + 1)), (6, .int (bd i)), (4, .int (nI 5)), (3, .ref abd), (0, .ref bk), (1, .int b)]) hx hb dX0_holesWith_36 hl (k := 2) rfl (nI_add i 1) (by decide) rfl (fun ls hl => ?_)
          refine lv_goto (tgt := 14) hx hb dX0_holesWith_39 (by decide) ?_
          exact ihhc14_1 (i + 1) (by omega) (by omega) ((cntN bd b i) + 1) (by simp [cntN, c_30]) (nI (i + 1)) rfl ls (lv_sub hl [0, 3, 4, 1, 5, 6] rfl)
  exact hc14_1 (5 + 1) 0 (by omega) (by omega) 0 rfl 0 rfl ls (lv_sub hl [0, 1, 2, 3, 4, 5] rfl)

set_option maxHeartbeats 4000000 in
set_option maxRecDepth 100000 in
theorem c_X0_roomOf (l : Launch) (D : va_G) (cI cZ cA : ClassId) (bk : Nat) (alt : Nat) (abd : Nat) (aeg : Nat) (abr : Nat) (ask : Nat) (ash : Nat) (ast : Nat) (sn : Nat) (yr : Int32) (lt : Nat → Int32) (k : Int32)  : Met l yX0_roomOf wsX0_roomOf (zr 2) (va_Pc [.ref bk, .int k] (zPr D cI cZ cA [(bk, .inr (0, [.ref alt, .ref abd, .ref aeg, .ref abr, .ref ask, .ref ash, .ref ast, .int (nI sn), .int yr])), (alt, .inl (cI, 5, .inl lt))])) (vp_Si (fun r => r = 2 - bitc (hOfN lt k 5))) 0 0 (fun _ => False) := by
  refine Met.ofW (cc := cX0_roomOf) (maxL := 2) (ret := (some .int)) (by decide) rfl ?_
  intro p e s m args below meth c s₁ B hml hv
  obtain ⟨rfl, hP, hE⟩ := hv
  have hx := B.exec
  have hb := B.bytes
  have hr := B.returns
  have hts := atoms_spec (ws := wsX0_roomOf) B.pre
  have hown : s.vm.findClass RX0 = some m.cls := findClass_of_methodNamed B.named
  have hlocks := B.notSynchronized
  have hP : va_P D vwCl [(bk, .inr (0, [.ref alt, .ref abd, .ref aeg, .ref abr, .ref ask, .ref ash, .ref ast, .int (nI sn), .int yr])), (alt, .inl (cI, 5, .inl lt))] s.heap := hP
  have hl := lv_entry ([.ref bk, .int k]) (n := 2) (Nat.le_of_ble_eq_true rfl)
  rw [lg_entry_eq]
  generalize (lg_sl ([.ref bk, .int k]) ++ List.replicate (2 - (lg_sl ([.ref bk, .int k])).length) Slot.unset).toArray = ls at hl ⊢
  have hl : lv_has ls 2 [(0, .ref bk), (1, .int k)] := hl
  refine lv_iconst (v := 2) hx hb dX0_roomOf_0 (by decide) ?_
  refine lv_aload_n hx hb dX0_roomOf_1 rfl (lv_at hl 0 rfl) ?_
  refine lv_iload_n hx hb dX0_roomOf_2 rfl (lv_at hl 1 rfl) ?_
  refine z_roVi (As := [.int k]) (rest := [.int 2]) ⟨hx, hb, hml, hown, hts⟩ (c_X0_holesOf l D cI cZ cA bk alt abd aeg abr ask ash ast sn yr lt k ) (cwV 1 hts gX0_roomOf_X0_holesOf rfl rfl rfl (by decide +kernel) ⟨Nat.le_of_ble_eq_true rfl, Nat.le_of_ble_eq_true rfl⟩) hE hP [0, 1] rfl 0 0 rfl rfl rfl hl.1 rfl (Nat.le_of_ble_eq_true rfl) dX0_roomOf_3 ⟨Nat.zero_le _, Nat.zero_le _⟩ ?_
  refine z_roSi (As := [.int (hOfN lt k 5)]) (rest := [.int 2]) ⟨hx, hb, hml, hown, hts⟩ (c_J6_bitCount_0f7a4 l D cI cZ cA (hOfN lt k 5) ) (va_cwS 1 hts gX0_roomOf_J6_bitCount_0f7a4 rfl rfl rfl (by decide +kernel) ⟨Nat.le_of_ble_eq_true rfl, Nat.le_of_ble_eq_true rfl⟩) hE hP [] rfl rfl hl.1 rfl (Nat.le_of_ble_eq_true rfl) dX0_roomOf_6 ⟨Nat.zero_le _, Nat.zero_le _⟩ ?_
  refine lv_isub hx hb dX0_roomOf_9 ?_
  exact W.iret (v := 2 - (bitc (hOfN lt k 5))) hx hb hr (fun t ht hW => ⟨(2 - (bitc (hOfN lt k 5))), rfl, rfl, ht⟩) (fun q h => by cases h) dX0_roomOf_10

set_option maxHeartbeats 4000000 in
set_option maxRecDepth 100000 in
theorem c_X0_empty (l : Launch) (D : va_G) (cI cZ cA : ClassId) (sz : Nat) (bk : Nat) (alt : Nat) (abd : Nat) (aeg : Nat) (abr : Nat) (ask : Nat) (ash : Nat) (ast : Nat) (sn : Nat) (yr : Int32) (lt : Nat → Int32) (bd : Nat → Int32) (eg : Nat → Int32) (h : Nat) (b : Int32) (hh : h < 5) : Met l yX0_empty wsX0_empty (zr 1) (va_Pc [.ref bk, .int (nI h), .int b] (zPw D cI cZ cA [(bk, .inr (0, [.ref alt, .ref abd, .ref aeg, .ref abr, .ref ask, .ref ash, .ref ast, .int (nI sn), .int yr])), (alt, .inl (cI, 5, .inl lt)), (abd, .inl (cI, 5, .inl bd)), (aeg, .inl (cI, 5, .inl eg))] sz)) (va_Qv (fun (_ : Unit) => True) (zB D [(bk, .inr (0, [.ref alt, .ref abd, .ref aeg, .ref abr, .ref ask, .ref ash, .ref ast, .int (nI sn), .int yr])), (alt, .inl (cI, 5, .inl (upd lt h (-1)))), (abd, .inl (cI, 5, .inl (upd bd h b))), (aeg, .inl (cI, 5, .inl (upd eg h 0)))] (va_A [(bk, .inr (0, [.ref alt, .ref abd, .ref aeg, .ref abr, .ref ask, .ref ash, .ref ast, .int (nI sn), .int yr])), (alt, .inl (cI, 5, .inl lt)), (abd, .inl (cI, 5, .inl bd)), (aeg, .inl (cI, 5, .inl eg))] sz)) (va_A [(bk, .inr (0, [.ref alt, .ref abd, .ref aeg, .ref abr, .ref ask, .ref ash, .ref ast, .int (nI sn), .int yr])), (alt, .inl (cI, 5, .inl lt)), (abd, .inl (cI, 5, .inl bd)), (aeg, .inl (cI, 5, .inl eg))] sz)) 0 0 (va_A [(bk, .inr (0, [.ref alt, .ref abd, .ref aeg, .ref abr, .ref ask, .ref ash, .ref ast, .int (nI sn), .int yr])), (alt, .inl (cI, 5, .inl lt)), (abd, .inl (cI, 5, .inl bd)), (aeg, .inl (cI, 5, .inl eg))] sz) := by
  refine Met.ofW (cc := cX0_empty) (maxL := 3) (ret := none) (by decide) rfl ?_
  intro p e s m args below meth c s₁ B hml hv
  obtain ⟨rfl, hsz, hP, hD0, hE⟩ := hv
  have hx := B.exec
  have hb := B.bytes
  have hr := B.returns
  have hts := atoms_spec (ws := wsX0_empty) B.pre
  have hown : s.vm.findClass RX0 = some m.cls := findClass_of_methodNamed B.named
  have hlocks := B.notSynchronized
  subst hsz
  have hD := hD0.self (sz := s.heap.size)
  generalize hAe : va_A [(bk, .inr (0, [.ref alt, .ref abd, .ref aeg, .ref abr, .ref ask, .ref ash, .ref ast, .int (nI sn), .int yr])), (alt, .inl (cI, 5, .inl lt)), (abd, .inl (cI, 5, .inl bd)), (aeg, .inl (cI, 5, .inl eg))] s.heap.size = A at hD ⊢
  have hA : ∀ q : Nat, s.heap.size ≤ q → A q := fun q h => by rw [← hAe]; exact Or.inr h
  have hS : va_S A s.heap s.heap [] := va_S.rf
  have hP : va_P D vwCl [(bk, .inr (0, [.ref alt, .ref abd, .ref aeg, .ref abr, .ref ask, .ref ash, .ref ast, .int (nI sn), .int yr])), (alt, .inl (cI, 5, .inl lt)), (abd, .inl (cI, 5, .inl bd)), (aeg, .inl (cI, 5, .inl eg))] s.heap := hP
  have hD : va_D A [(bk, .inr (0, [.ref alt, .ref abd, .ref aeg, .ref abr, .ref ask, .ref ash, .ref ast, .int (nI sn), .int yr])), (alt, .inl (cI, 5, .inl lt)), (abd, .inl (cI, 5, .inl bd)), (aeg, .inl (cI, 5, .inl eg))] := hD
  have hl := lv_entry ([.ref bk, .int (nI h), .int b]) (n := 3) (Nat.le_of_ble_eq_true rfl)
  rw [lg_entry_eq]
  generalize (lg_sl ([.ref bk, .int (nI h), .int b]) ++ List.replicate (3 - (lg_sl ([.ref bk, .int (nI h), .int b])).length) Slot.unset).toArray = ls at hl ⊢
  have hl : lv_has ls 3 [(0, .ref bk), (1, .int (nI h)), (2, .int b)] := hl
  have hinX0 : ∀ w ∈ wsX00, w ∈ wsX0_empty := fun w h => List.mem_cons_of_mem _ (List.mem_append_right _ h)
  have k_0 := hts (.fieldLink RX0 9 "VowDoves$Book" "letTo" "[I") (by decide +kernel)
  have k_1 := hts (.fieldLink RX0 15 "VowDoves$Book" "birds" "[I") (by decide +kernel)
  have k_2 := hts (.fieldLink RX0 18 "VowDoves$Book" "eggs" "[I") (by decide +kernel)
  refine lv_aload_n hx hb dX0_empty_0 rfl (lv_at hl 0 rfl) ?_
  refine va_get (D := D) (ci := 0) (v := .ref alt) (C := RX0) (T := TX0) (N := 9) hx hb hts hinX0 hown hE.1 hP 0 rfl rfl 0 (by decide) k_0 (fun _ h9 => h9) rfl dX0_empty_1 ?_
  refine lv_iload_n hx hb dX0_empty_4 rfl (lv_at hl 1 rfl) ?_
  refine lv_iconst (v := (-1)) hx hb dX0_empty_5 (by decide) ?_
  refine z_iast hx hb hE hP hD hS 1 rfl (j := h) rfl (by omega) (by decide) dX0_empty_6 (fun H locs hP hD hS => ?_)
  have hP : va_P D vwCl [(bk, .inr (0, [.ref alt, .ref abd, .ref aeg, .ref abr, .ref ask, .ref ash, .ref ast, .int (nI sn), .int yr])), (alt, .inl (cI, 5, .inl (upd lt h (-1)))), (abd, .inl (cI, 5, .inl bd)), (aeg, .inl (cI, 5, .inl eg))] H := hP
  have hD : va_D A [(bk, .inr (0, [.ref alt, .ref abd, .ref aeg, .ref abr, .ref ask, .ref ash, .ref ast, .int (nI sn), .int yr])), (alt, .inl (cI, 5, .inl (upd lt h (-1)))), (abd, .inl (cI, 5, .inl bd)), (aeg, .inl (cI, 5, .inl eg))] := hD
  refine lv_aload_n hx hb dX0_empty_7 rfl (lv_at hl 0 rfl) ?_
  refine va_get (D := D) (ci := 0) (v := .ref abd) (C := RX0) (T := TX0) (N := 9) hx hb hts hinX0 hown hE.1 hP 0 rfl rfl 1 (by decide) k_1 (fun _ h9 => h9) rfl dX0_empty_8 ?_
  refine lv_iload_n hx hb dX0_empty_11 rfl (lv_at hl 1 rfl) ?_
  refine lv_iload_n hx hb dX0_empty_12 rfl (lv_at hl 2 rfl) ?_
  refine z_iast hx hb hE hP hD hS 2 rfl (j := h) rfl (by omega) (by decide) dX0_empty_13 (fun H locs hP hD hS => ?_)
  have hP : va_P D vwCl [(bk, .inr (0, [.ref alt, .ref abd, .ref aeg, .ref abr, .ref ask, .ref ash, .ref ast, .int (nI sn), .int yr])), (alt, .inl (cI, 5, .inl (upd lt h (-1)))), (abd, .inl (cI, 5, .inl (upd bd h b))), (aeg, .inl (cI, 5, .inl eg))] H := hP
  have hD : va_D A [(bk, .inr (0, [.ref alt, .ref abd, .ref aeg, .ref abr, .ref ask, .ref ash, .ref ast, .int (nI sn), .int yr])), (alt, .inl (cI, 5, .inl (upd lt h (-1)))), (abd, .inl (cI, 5, .inl (upd bd h b))), (aeg, .inl (cI, 5, .inl eg))] := hD
  refine lv_aload_n hx hb dX0_empty_14 rfl (lv_at hl 0 rfl) ?_
  refine va_get (D := D) (ci := 0) (v := .ref aeg) (C := RX0) (T := TX0) (N := 9) hx hb hts hinX0 hown hE.1 hP 0 rfl rfl 2 (by decide) k_2 (fun _ h9 => h9) rfl dX0_empty_15 ?_
  refine lv_iload_n hx hb dX0_empty_18 rfl (lv_at hl 1 rfl) ?_
  refine lv_iconst (v := 0) hx hb dX0_empty_19 (by decide) ?_
  refine z_iast hx hb hE hP hD hS 3 rfl (j := h) rfl (by omega) (by decide) dX0_empty_20 (fun H locs hP hD hS => ?_)
  have hP : va_P D vwCl [(bk, .inr (0, [.ref alt, .ref abd, .ref aeg, .ref abr, .ref ask, .ref ash, .ref ast, .int (nI sn), .int yr])), (alt, .inl (cI, 5, .inl (upd lt h (-1)))), (abd, .inl (cI, 5, .inl (upd bd h b))), (aeg, .inl (cI, 5, .inl (upd eg h 0)))] H := hP
  have hD : va_D A [(bk, .inr (0, [.ref alt, .ref abd, .ref aeg, .ref abr, .ref ask, .ref ash, .ref ast, .int (nI sn), .int yr])), (alt, .inl (cI, 5, .inl (upd lt h (-1)))), (abd, .inl (cI, 5, .inl (upd bd h b))), (aeg, .inl (cI, 5, .inl (upd eg h 0)))] := hD
  have hP9 := hP.sub (ws' := [(bk, .inr (0, [.ref alt, .ref abd, .ref aeg, .ref abr, .ref ask, .ref ash, .ref ast, .int (nI sn), .int yr])), (alt, .inl (cI, 5, .inl (upd lt h (-1)))), (abd, .inl (cI, 5, .inl (upd bd h b))), (aeg, .inl (cI, 5, .inl (upd eg h 0)))]) [0, 1, 2, 3] rfl
  have hD9 := hD.sub (ws' := [(bk, .inr (0, [.ref alt, .ref abd, .ref aeg, .ref abr, .ref ask, .ref ash, .ref ast, .int (nI sn), .int yr])), (alt, .inl (cI, 5, .inl (upd lt h (-1)))), (abd, .inl (cI, 5, .inl (upd bd h b))), (aeg, .inl (cI, 5, .inl (upd eg h 0)))]) [0, 1, 2, 3] (by decide) rfl
  exact W.vret hx hb hr (fun t ht hW => ⟨⟨(), rfl, trivial, by rw [ht]; exact hP9, hD9⟩, hS.F ht⟩) hS.2.2 dX0_empty_21
end
section

/-! PURE WORDS of the reference's leaves, and rows for longs and array contents -/
theorem zl_lt {x y : Int64} (h : lg_cmp x y < 0) : x < y := by
  unfold lg_cmp at h
  by_cases q : x > y
  · rw [if_pos q] at h; exact absurd h (by decide)
  · rw [if_neg q] at h
    by_cases q2 : x = y
    · rw [if_pos q2] at h; exact absurd h (by decide)
    · exact Int64.lt_of_le_of_ne (Int64.not_lt.mp q) q2
theorem zl_gt {x y : Int64} (h : 0 < lg_cmp x y) : y < x := by
  unfold lg_cmp at h
  by_cases q : x > y
  · exact q
  · rw [if_neg q] at h
    by_cases q2 : x = y
    · rw [if_pos q2] at h; exact absurd h (by decide)
    · rw [if_neg q2] at h; exact absurd h (by decide)
theorem zl_nlt {x y : Int64} (h : ¬ lg_cmp x y < 0) : y ≤ x := by
  refine Int64.not_lt.mp (fun q => h ?_)
  unfold lg_cmp
  rw [if_neg (fun z => absurd (Int64.lt_trans q z) (by simp)), if_neg (fun z => by subst z; simp at q)]
  decide
theorem zl_ngt {x y : Int64} (h : ¬ 0 < lg_cmp x y) : x ≤ y := by
  refine Int64.not_lt.mp (fun q => h ?_)
  unfold lg_cmp
  rw [if_pos q]
  decide
theorem zl_le {x y : Int64} (h : lg_cmp x y ≤ 0) : x ≤ y := zl_ngt (fun q => absurd (Int32.not_lt.mpr h) (fun z => z q))
theorem zl_nle {x y : Int64} (h : ¬ lg_cmp x y ≤ 0) : y < x := zl_gt (Int32.not_le.mp h)
theorem zin {x lo hi : Int32} {a b : Int64} (ha : lo.toInt64 = a) (hb : hi.toInt64 = b) : (a ≤ x.toInt64 ∧ x.toInt64 ≤ b) ↔ (lo ≤ x ∧ x ≤ hi) := by
  subst ha; subst hb
  rw [Int64.le_iff_toInt_le, Int64.le_iff_toInt_le, Int32.le_iff_toInt_le, Int32.le_iff_toInt_le, Int32.toInt_toInt64, Int32.toInt_toInt64, Int32.toInt_toInt64]
theorem zkeep {k : Int32} {K : Nat} (hK : K < 2 ^ 30) : (0 ≤ k.toInt64 ∧ k.toInt64 ≤ (nI K - 1).toInt64) ↔ (¬ k < 0 ∧ k < nI K) := by
  rw [zin (lo := 0) (hi := nI K - 1) (by decide) rfl, Int32.not_lt, Int32.le_iff_toInt_le (x := k), Int32.lt_iff_toInt_lt (x := k), show nI K - 1 = nI K - nI 1 from rfl, pk_sub_toInt hK (by decide), nI_toInt (by omega)]
  constructor
  · rintro ⟨h1, h2⟩; exact ⟨h1, by omega⟩
  · rintro ⟨h1, h2⟩; exact ⟨h1, by omega⟩
theorem z_Pext {D : va_G} {ws : va_W} {H : Heap} {a n : Nat} {cX : ClassId} {f : Nat → Int32} (hP : va_P D vwCl ws H) (q0 : Nat) (ha : ws[q0]? = some (a, .inl (cX, n, .inl f))) {g : Nat → Int32} (h : ∀ j : Nat, j < n → f j = g j) : va_P D vwCl (ws.set q0 (a, .inl (cX, n, .inl g))) H := by
  intro k q hq
  by_cases hk : k = q0
  · subst hk
    have hl : k < ws.length := (List.getElem?_eq_some_iff.mp ha).1
    rw [List.getElem?_set_self hl] at hq
    cases hq
    have h1 := hP k _ ha
    have e : vp_cell cX (n, .inl f) = vp_cell cX (n, .inl g) := by
      rw [vp_cell_i, vp_cell_i]
      unfold arrV
      congr 1
      apply Array.ext
      · simp
      · intro i hi1 hi2
        simp at hi1
        simp [h i hi1]
    show H[a]? = some (vp_cell cX (n, .inl g))
    rw [← e]
    exact h1
  · rw [List.getElem?_set_ne (fun z => hk z.symm)] at hq
    exact hP k q hq
def cpN (f g : Nat → Int32) (n : Nat) : Nat → Int32 := fun j => if j < n then f j else g j
theorem cpN_0 (f g : Nat → Int32) : cpN f g 0 = g := by funext j; simp [cpN]
theorem cpN_s (f g : Nat → Int32) (i : Nat) : upd (cpN f g i) i (f i) = cpN f g (i + 1) := by
  funext j
  by_cases h : j = i
  · subst h; simp [cpN, upd]
  · by_cases h2 : j < i
    · simp [cpN, upd, h, h2, Nat.lt_succ_of_lt h2]
    · simp [cpN, upd, h, h2, show ¬ j < i + 1 by omega]
def kb (c : Int32) : Int32 := if c = 107 then 0 else if c = 119 then 1 else if c = 108 then 2 else if c = 98 then 3 else if c = 109 then 4 else -1
def tb (kind faith hard : Int32) : Int32 :=
  (fun (v : Int32) => (fun (v : Int32) => (fun (v : Int32) => if 0 ≤ v then (if v ≤ 10 then v else 10) else 0) (if kind = 1 ∨ kind = 4 then (if 3 ≤ v then v else 3) else v)) (if kind = 3 then v - hard else v)) (if kind = 4 then faith + 5 - hard + 2 else faith + 5 - hard)
def dig (c : Int32) : Prop := 48 ≤ c ∧ c ≤ 57
def gR (pg : Nat → Int32) (ea : Int32) (i : Nat) : Int32 :=
  if ea = -1 then (if i % 3 = 2 then (if pg i = 59 ∧ 4 < i then 1 else zb (pg i = 44 ∧ i < 14)) else if i % 3 = 0 then zb (¬ kb (pg i) = -1) else zb (48 ≤ pg i ∧ pg i ≤ 57)) else zb (nI i - ea < 6 ∧ (48 ≤ pg i ∧ pg i ≤ 57))
def gE (pg : Nat → Int32) (ea : Int32) (i : Nat) : Int32 := if ea = -1 ∧ i % 3 = 2 ∧ pg i = 59 ∧ 4 < i then nI i else ea
def scF (R E : Int32 → Nat → Int32) : Nat → Nat → Int32 → Nat × Int32
  | 0, i, e => (i, e)
  | n + 1, i, e => if R e i = 0 then (i, E e i) else scF R E n (i + 1) (E e i)
def sOfN (ns : Nat → Int32) (k : Int32) : Nat → Int32
  | 0 => 0
  | i + 1 => sOfN ns k i ||| (if ns (4 * i + 1) = k then 1 <<< (nI i &&& 31) else 0)
def oneN (x : Int32) : Nat → Int32
  | 0 => 0
  | i + 1 => oneN x i + ((x >>> (nI i &&& 31)) &&& 1)
def eInN (ns : Nat → Int32) (x : Int32) : Nat → Int32
  | 0 => 0
  | i + 1 => eInN ns x i + ((x >>> (nI i &&& 31)) &&& 1) * ns (4 * i + 3)
def brdN (ns : Nat → Int32) (b : Int32) : Nat → Int32
  | 0 => 0
  | i + 1 => brdN ns b i + (if ns (4 * i + 2) = b then 1 else 0)
def brkN (rw : Nat → Int32) : Nat → Int32
  | 0 => 0
  | i + 1 => brkN rw i + rw (3 * i + 2)
def wayN (rw si : Nat → Int32) (k : Nat) (fa : Int32) : Nat → Int64
  | 0 => 1
  | i + 1 => wayN rw si k fa i * (if si (3 * i) = nI k then (if si (3 * i + 2) = 1 then (tb (rw (3 * k)) fa (si (3 * i + 1))).toInt64 else (10 - tb (rw (3 * k)) fa (si (3 * i + 1))).toInt64) else 1)
def faiN (w : Nat → Int64) : Nat → Int32
  | 0 => 0
  | v + 1 => faiN w v ||| (if w v ≤ 0 then (0 : Int32) else (1 : Int32) <<< (nI v &&& 31))
def likM (w : Nat → Int64) : Nat → Int64
  | 0 => 0
  | v + 1 => if w v ≤ likM w v then likM w v else w v
def likN (w : Nat → Int64) : Nat → Int32
  | 0 => -1
  | v + 1 => if w v ≤ likM w v then likN w v else nI v
def tIn (rw ns : Nat → Int32) (h : Nat) : Int32 := if ns (4 * h + 1) = -1 then -1 else tb (rw (3 * (ns (4 * h + 1)).toNatClampNeg)) (rw (3 * (ns (4 * h + 1)).toNatClampNeg + 1)) (ns (4 * h))
theorem tIn_k {rw ns : Nat → Int32} {h k : Nat} (e : ns (4 * h + 1) = nI k) (hk : k < 5) : tIn rw ns h = tb (rw (3 * k)) (rw (3 * k + 1)) (ns (4 * h)) := by
  have h1 : ¬ nI k = -1 := fun q => by
    have := congrArg Int32.toInt q
    rw [nI_toInt (by omega)] at this
    have h2 : (-1 : Int32).toInt = -1 := by decide
    omega
  rw [tIn, e, if_neg h1, nI_clamp (by omega)]
def tellH (rw ns : Nat → Int32) (h : Nat) (what : Int32) : Int32 := if 0 ≤ what ∧ what ≤ 3 then ns (4 * h + what.toNatClampNeg) else if what = 4 then tIn rw ns h else -102
/-- whoever a hole is let to is a keeper -/
def letOk (ns : Nat → Int32) (K Hn : Nat) : Prop := ∀ h : Nat, h < Hn → ns (4 * h + 1) = -1 ∨ ∃ k : Nat, k < K ∧ ns (4 * h + 1) = nI k
set_option maxHeartbeats 4000000 in
set_option maxRecDepth 100000 in
theorem c_X6_in (l : Launch) (D : va_G) (cI cZ cA : ClassId) (v0 : Int64) (lo0 : Int64) (hi0 : Int64)  : Met l yX6_in wsX6_in (zr 1) (va_Pc [.long v0, .long lo0, .long hi0] (zPr D cI cZ cA [])) (vp_Si (fun r => r = zb (lo0 ≤ v0 ∧ v0 ≤ hi0))) 0 0 (fun _ => False) := by
  refine Met.ofW (cc := cX6_in) (maxL := 6) (ret := (some .boolean)) (by decide) rfl ?_
  intro p e s m args below meth c s₁ B hml hv
  obtain ⟨rfl, hP, hE⟩ := hv
  have hx := B.exec
  have hb := B.bytes
  have hr := B.returns
  have hts := atoms_spec (ws := wsX6_in) B.pre
  have hown : s.vm.findClass RX6 = some m.cls := findClass_of_methodNamed B.named
  have hlocks := B.notSynchronized
  have hP : va_P D vwCl [] s.heap := hP
  have hl := lv_entry ([.long v0, .long lo0, .long hi0]) (n := 6) (Nat.le_of_ble_eq_true rfl)
  rw [lg_entry_eq]
  generalize (lg_sl ([.long v0, .long lo0, .long hi0]) ++ List.replicate (6 - (lg_sl ([.long v0, .long lo0, .long hi0])).length) Slot.unset).toArray = ls at hl ⊢
  have hl : lv_has ls 6 [(0, .long v0), (2, .long lo0), (4, .long hi0)] := hl
  refine lv_lload_n hx hb dX6_in_0 rfl (lv_at hl 0 rfl) ?_
  refine lv_lload_n hx hb dX6_in_1 rfl (lv_at hl 1 rfl) ?_
  refine W.lcmp hx hb dX6_in_2 ?_
  refine lv_if_lt (tgt := 17) hx hb dX6_in_3 (by decide) (fun c_3 => ?_) (fun c_3 => ?_)
  · have c_3 := zl_lt c_3
    refine lv_iconst (v := 0) hx hb dX6_in_17 (by decide) ?_
    exact W.zret (v := 0) hx hb hr rfl (fun t ht hW => ⟨0, rfl, (zb_f (fun h => Int64.not_lt.mpr h.1 c_3)).symm, ht⟩) (fun q h => by cases h) dX6_in_18
  · have c_3 := zl_nlt c_3
    refine lv_lload_n hx hb dX6_in_6 rfl (lv_at hl 0 rfl) ?_
    refine lv_lload hx hb dX6_in_7 (lv_at hl 2 rfl) ?_
    refine W.lcmp hx hb dX6_in_9 ?_
    refine lv_if_gt (tgt := 17) hx hb dX6_in_10 (by decide) (fun c_10 => ?_) (fun c_10 => ?_)
    · have c_10 := zl_gt c_10
      refine lv_iconst (v := 0) hx hb dX6_in_17 (by decide) ?_
      exact W.zret (v := 0) hx hb hr rfl (fun t ht hW => ⟨0, rfl, (zb_f (fun h => Int64.not_lt.mpr h.2 c_10)).symm, ht⟩) (fun q h => by cases h) dX6_in_18
    · have c_10 := zl_ngt c_10
      refine lv_iconst (v := 1) hx hb dX6_in_13 (by decide) ?_
      refine lv_goto (tgt := 18) hx hb dX6_in_14 (by decide) ?_
      exact W.zret (v := 1) hx hb hr rfl (fun t ht hW => ⟨1, rfl, (zb_t ⟨c_3, c_10⟩).symm, ht⟩) (fun q h => by cases h) dX6_in_18

set_option maxHeartbeats 4000000 in
set_option maxRecDepth 100000 in
theorem c_X6_copy (l : Launch) (D : va_G) (cI cZ cA : ClassId) (sz : Nat) (a0 : Nat) (b0 : Nat) (n0 : Nat) (f0 : Nat → Int32) (g0 : Nat → Int32) (hn : n0 < 1000) : Met l yX6_copy wsX6_copy (zr 1) (va_Pc [.ref a0, .ref b0] (zPw D cI cZ cA [(a0, .inl (cI, n0, .inl f0)), (b0, .inl (cI, n0, .inl g0))] sz)) (va_Qv (fun (_ : Unit) => True) (zB D [(a0, .inl (cI, n0, .inl f0)), (b0, .inl (cI, n0, .inl f0))] (va_A [(a0, .inl (cI, n0, .inl f0)), (b0, .inl (cI, n0, .inl g0))] sz)) (va_A [(a0, .inl (cI, n0, .inl f0)), (b0, .inl (cI, n0, .inl g0))] sz)) 0 0 (va_A [(a0, .inl (cI, n0, .inl f0)), (b0, .inl (cI, n0, .inl g0))] sz) := by
  refine Met.ofW (cc := cX6_copy) (maxL := 3) (ret := none) (by decide) rfl ?_
  intro p e s m args below meth c s₁ B hml hv
  obtain ⟨rfl, hsz, hP, hD0, hE⟩ := hv
  have hx := B.exec
  have hb := B.bytes
  have hr := B.returns
  have hts := atoms_spec (ws := wsX6_copy) B.pre
  have hown : s.vm.findClass RX6 = some m.cls := findClass_of_methodNamed B.named
  have hlocks := B.notSynchronized
  subst hsz
  have hD := hD0.self (sz := s.heap.size)
  generalize hAe : va_A [(a0, .inl (cI, n0, .inl f0)), (b0, .inl (cI, n0, .inl g0))] s.heap.size = A at hD ⊢
  have hA : ∀ q : Nat, s.heap.size ≤ q → A q := fun q h => by rw [← hAe]; exact Or.inr h
  have hS : va_S A s.heap s.heap [] := va_S.rf
  have hP : va_P D vwCl [(a0, .inl (cI, n0, .inl f0)), (b0, .inl (cI, n0, .inl g0))] s.heap := hP
  have hD : va_D A [(a0, .inl (cI, n0, .inl f0)), (b0, .inl (cI, n0, .inl g0))] := hD
  have hl := lv_entry ([.ref a0, .ref b0]) (n := 3) (Nat.le_of_ble_eq_true rfl)
  rw [lg_entry_eq]
  generalize (lg_sl ([.ref a0, .ref b0]) ++ List.replicate (3 - (lg_sl ([.ref a0, .ref b0])).length) Slot.unset).toArray = ls at hl ⊢
  have hl : lv_has ls 3 [(0, .ref a0), (1, .ref b0)] := hl
  refine lv_iconst (v := 0) hx hb dX6_copy_0 (by decide) ?_
  refine lv_istore_n (lv' := [(2, .int 0), (0, .ref a0), (1, .ref b0)]) hx hb dX6_copy_1 rfl hl (by decide) rfl (fun ls hl => ?_)
  have hc2_1 : ∀ (n : Nat) (i : Nat), (i ≤ n0) → (n0 + 1 ≤ i + n) → ∀ (w2 : Int32), w2 = nI i → ∀ (wf : Nat → Int32), wf = cpN f0 g0 i → ∀ (H : Heap) (locs : List Loc), va_P D vwCl [(a0, .inl (cI, n0, .inl f0)), (b0, .inl (cI, n0, .inl wf))] H → va_D A [(a0, .inl (cI, n0, .inl f0)), (b0, .inl (cI, n0, .inl wf))] → va_S A s.heap H locs → ∀ (ls : Array Slot), lv_has ls 3 [(2, .int w2), (0, .ref a0), (1, .ref b0)] → W p l e (headSpec wsX6_copy (zr 1)).room s m ([.ref a0, .ref b0] : List Value).toArray below meth c H locs 0 0 (MQ below (va_Qv (fun (_ : Unit) => True) (zB D [(a0, .inl (cI, n0, .inl f0)), (b0, .inl (cI, n0, .inl f0))] A) A) ([.ref a0, .ref b0] : List Value).toArray s 0 0 A) (F0 m 2 ls []) := by
    intro n
    induction n with
    | zero => intro i hi hfu; exact absurd hfu (by omega)
    | succ n ihhc2_1 =>
      intro i hi hfu w2 ew2 wf ewf H locs hP hD hS ls hl
      subst ew2
      subst ewf
      refine lv_iload_n hx hb dX6_copy_2 rfl (lv_at hl 0 rfl) ?_
      refine lv_aload_n hx hb dX6_copy_3 rfl (lv_at hl 1 rfl) ?_
      refine z_alen hx hb hE hP 0 rfl dX6_copy_4 ?_
      refine lv_icmp_ge (tgt := 20) hx hb dX6_copy_5 (by decide) (fun c_5 => ?_) (fun c_5 => ?_)
      · have n_5 := zn_le (a := n0) (b := i) rfl rfl c_5 (by omega) (by omega)
        obtain rfl : n0 = i := by omega
        have hP := z_Pext hP 1 rfl (g := f0) (fun j hj => if_pos hj)
        have hD := hD.set (p := 1) (e := .inl (cI, n0, .inl f0)) rfl
        have hP : va_P D vwCl [(a0, .inl (cI, n0, .inl f0)), (b0, .inl (cI, n0, .inl f0))] _ := hP
        have hD : va_D A [(a0, .inl (cI, n0, .inl f0)), (b0, .inl (cI, n0, .inl f0))] := hD
        have hP9 := hP.sub (ws' := [(a0, .inl (cI, n0, .inl f0)), (b0, .inl (cI, n0, .inl f0))]) [0, 1] rfl
        have hD9 := hD.sub (ws' := [(a0, .inl (cI, n0, .inl f0)), (b0, .inl (cI, n0, .inl f0))]) [0, 1] (by decide) rfl
        exact W.vret hx hb hr (fun t ht hW => ⟨⟨(), rfl, trivial, by rw [ht]; exact hP9, hD9⟩, hS.F ht⟩) hS.2.2 dX6_copy_20
      · have n_5 := zn_nle (a := n0) (b := i) rfl rfl c_5 (by omega) (by omega)
        refine lv_aload_n hx hb dX6_copy_8 rfl (lv_at hl 2 rfl) ?_
        refine lv_iload_n hx hb dX6_copy_9 rfl (lv_at hl 0 rfl) ?_
        refine lv_aload_n hx hb dX6_copy_10 rfl (lv_at hl 1 rfl) ?_
        refine lv_iload_n hx hb dX6_copy_11 rfl (lv_at hl 0 rfl) ?_
        refine z_iald hx hb hE hP 0 rfl (j := i) rfl (by omega) (by omega) dX6_copy_12 ?_
        refine z_iast hx hb hE hP hD hS 1 rfl (j := i) rfl (by omega) (by omega) dX6_copy_13 (fun H locs hP hD hS => ?_)
        have hP : va_P D vwCl [(a0, .inl (cI, n0, .inl f0)), (b0, .inl (cI, n0, .inl (upd (cpN f0 g0 i) i (f0 i))))] H := hP
        have hD : va_D A [(a0, .inl (cI, n0, .inl f0)), (b0, .inl (cI, n0, .inl (upd (cpN f0 g0 i) i (f0 i))))] := hD
        refine lv_iinc (v := nI (i + 1)) (lv' := [(2, .int (nI (i + 1))), (0, .ref a0), (1, .ref b0)]) hx hb dX6_copy_14 hl (k := 0) rfl (nI_add i 1) (by decide) rfl (fun ls hl => ?_)
        refine lv_goto (tgt := 2) hx hb dX6_copy_17 (by decide) ?_
        exact ihhc2_1 (i + 1) (by omega) (by omega) (nI (i + 1)) rfl (upd (cpN f0 g0 i) i (f0 i)) (cpN_s f0 g0 i) _ _ (hP.sub [0, 1] rfl) (hD.sub [0, 1] (by decide) rfl) hS ls (lv_sub hl [0, 1, 2] rfl)
  exact hc2_1 (n0 + 1) 0 (by omega) (by omega) 0 rfl g0 (cpN_0 f0 g0).symm _ _ (hP.sub [0, 1] rfl) (hD.sub [0, 1] (by decide) rfl) hS ls (lv_sub hl [0, 1, 2] rfl)

set_option maxHeartbeats 4000000 in
set_option maxRecDepth 100000 in
theorem c_X6_common (l : Launch) (D : va_G) (cI cZ cA : ClassId) (a0 : Nat) (b0 : Nat) (ha0 : a0 < 2 ^ 62) (hb0 : b0 < 2 ^ 62) : Met l yX6_common wsX6_common (zr 1) (va_Pc [.long (lN a0), .long (lN b0)] (zPr D cI cZ cA [])) (vp_Sl (fun r => r = lN (Nat.gcd a0 b0))) 0 0 (fun _ => False) := by
  refine Met.ofW (cc := cX6_common) (maxL := 10) (ret := (some .long)) (by decide) rfl ?_
  intro p e s m args below meth c s₁ B hml hv
  obtain ⟨rfl, hP, hE⟩ := hv
  have hx := B.exec
  have hb := B.bytes
  have hr := B.returns
  have hts := atoms_spec (ws := wsX6_common) B.pre
  have hown : s.vm.findClass RX6 = some m.cls := findClass_of_methodNamed B.named
  have hlocks := B.notSynchronized
  have hP : va_P D vwCl [] s.heap := hP
  have hl := lv_entry ([.long (lN a0), .long (lN b0)]) (n := 10) (Nat.le_of_ble_eq_true rfl)
  rw [lg_entry_eq]
  generalize (lg_sl ([.long (lN a0), .long (lN b0)]) ++ List.replicate (10 - (lg_sl ([.long (lN a0), .long (lN b0)])).length) Slot.unset).toArray = ls at hl ⊢
  have hl : lv_has ls 10 [(0, .long (lN a0)), (2, .long (lN b0))] := hl
  refine lv_lload_n hx hb dX6_common_0 rfl (lv_at hl 0 rfl) ?_
  refine lv_lstore (lv' := [(4, .long (lN a0)), (0, .long (lN a0)), (2, .long (lN b0))]) hx hb dX6_common_1 hl (by decide) rfl (fun ls hl => ?_)
  refine lv_lload_n hx hb dX6_common_3 rfl (lv_at hl 2 rfl) ?_
  refine lv_lstore (lv' := [(6, .long (lN b0)), (4, .long (lN a0)), (0, .long (lN a0)), (2, .long (lN b0))]) hx hb dX6_common_4 hl (by decide) rfl (fun ls hl => ?_)
  have hc6_1 : ∀ (n : Nat) (a : Nat) (b : Nat), (a < 2 ^ 62) → (b < 2 ^ 62) → (Nat.gcd a b = Nat.gcd a0 b0) → (b + 1 ≤ n) → ∀ (w4 : Int64), w4 = lN a → ∀ (w6 : Int64), w6 = lN b → ∀ (ls : Array Slot), lv_has ls 10 [(6, .long w6), (4, .long w4)] → W p l e (headSpec wsX6_common (zr 1)).room s m ([.long (lN a0), .long (lN b0)] : List Value).toArray below meth c s.heap [] 0 0 (MQ below (vp_Sl (fun r => r = lN (Nat.gcd a0 b0))) ([.long (lN a0), .long (lN b0)] : List Value).toArray s 0 0 (fun _ => False)) (F0 m 6 ls []) := by
    intro n
    induction n with
    | zero => intro a b ha hb2 hg hfu; exact absurd hfu (by omega)
    | succ n ihhc6_1 =>
      intro a b ha hb2 hg hfu w4 ew4 w6 ew6 ls hl
      subst ew4
      subst ew6
      refine lv_lload hx hb dX6_common_6 (lv_at hl 0 rfl) ?_
      refine lv_lconst (v := 0) hx hb dX6_common_8 (by decide) ?_
      refine W.lcmp hx hb dX6_common_9 ?_
      refine lv_if_le (tgt := 31) hx hb dX6_common_10 (by decide) (fun c_10 => ?_) (fun c_10 => ?_)
      · have c_10 := zl_le c_10
        have hb0 : b = 0 := by
          have := (pk_lLE (a := b) (b := 0) (by omega) (by omega)).mp c_10
          omega
        subst hb0
        rw [Nat.gcd_zero_right] at hg
        refine lv_lload hx hb dX6_common_31 (lv_at hl 1 rfl) ?_
        exact W.lret (v := lN a) hx hb hr (fun t ht hW => ⟨(lN a), rfl, (by rw [hg]), ht⟩) (fun q h => by cases h) dX6_common_33
      · have c_10 := zl_nle c_10
        have hbp : 0 < b := (pk_lLT (a := 0) (b := b) (by omega) (by omega)).mp c_10
        have hml2 : a % b < b := Nat.mod_lt _ hbp
        refine lv_lload hx hb dX6_common_13 (lv_at hl 1 rfl) ?_
        refine lv_lload hx hb dX6_common_15 (lv_at hl 0 rfl) ?_
        refine lv_lrem hx hb dX6_common_17 (fun q => absurd ((pk_lEQ (a := b) (b := 0) (by omega) (by omega)).mp q) (by omega)) ?_
        refine lv_lstore (lv' := [(8, .long ((lN a) - (lN a) / (lN b) * (lN b))), (6, .long (lN b)), (4, .long (lN a))]) hx hb dX6_common_18 hl (by decide) rfl (fun ls hl => ?_)
        refine lv_lload hx hb dX6_common_20 (lv_at hl 1 rfl) ?_
        refine lv_lstore (lv' := [(4, .long (lN b)), (8, .long ((lN a) - (lN a) / (lN b) * (lN b))), (6, .long (lN b))]) hx hb dX6_common_22 hl (by decide) rfl (fun ls hl => ?_)
        refine lv_lload hx hb dX6_common_24 (lv_at hl 1 rfl) ?_
        refine lv_lstore (lv' := [(6, .long ((lN a) - (lN a) / (lN b) * (lN b))), (4, .long (lN b)), (8, .long ((lN a) - (lN a) / (lN b) * (lN b)))]) hx hb dX6_common_26 hl (by decide) rfl (fun ls hl => ?_)
        refine lv_goto (tgt := 6) hx hb dX6_common_28 (by decide) ?_
        exact ihhc6_1 b (a % b) hb2 (by omega) (by rw [← hg, Nat.gcd_comm b, ← Nat.gcd_rec, Nat.gcd_comm]) (by omega) (lN b) rfl ((lN a) - (lN a) / (lN b) * (lN b)) (pk_lRem (by omega) (by omega) (by omega)) ls (lv_sub hl [0, 1] rfl)
  exact hc6_1 (b0 + 1) a0 b0 ha0 hb0 rfl (by omega) (lN a0) rfl (lN b0) rfl ls (lv_sub hl [0, 1] rfl)

set_option maxHeartbeats 4000000 in
set_option maxRecDepth 100000 in
theorem c_X6_kindBy (l : Launch) (D : va_G) (cI cZ cA : ClassId) (c0 : Int32)  : Met l yX6_kindBy wsX6_kindBy (zr 1) (va_Pc [.int c0] (zPr D cI cZ cA [])) (vp_Si (fun r => r = kb c0)) 0 0 (fun _ => False) := by
  refine Met.ofW (cc := cX6_kindBy) (maxL := 1) (ret := (some .int)) (by decide) rfl ?_
  intro p e s m args below meth c s₁ B hml hv
  obtain ⟨rfl, hP, hE⟩ := hv
  have hx := B.exec
  have hb := B.bytes
  have hr := B.returns
  have hts := atoms_spec (ws := wsX6_kindBy) B.pre
  have hown : s.vm.findClass RX6 = some m.cls := findClass_of_methodNamed B.named
  have hlocks := B.notSynchronized
  have hP : va_P D vwCl [] s.heap := hP
  have hl := lv_entry ([.int c0]) (n := 1) (Nat.le_of_ble_eq_true rfl)
  rw [lg_entry_eq]
  generalize (lg_sl ([.int c0]) ++ List.replicate (1 - (lg_sl ([.int c0])).length) Slot.unset).toArray = ls at hl ⊢
  have hl : lv_has ls 1 [(0, .int c0)] := hl
  refine lv_iload_n hx hb dX6_kindBy_0 rfl (lv_at hl 0 rfl) ?_
  refine lv_bipush (v := 107) hx hb dX6_kindBy_1 (by decide) ?_
  refine lv_icmp_ne (tgt := 10) hx hb dX6_kindBy_3 (by decide) (fun c_3 => ?_) (fun c_3 => ?_)
  · refine lv_iload_n hx hb dX6_kindBy_10 rfl (lv_at hl 0 rfl) ?_
    refine lv_bipush (v := 119) hx hb dX6_kindBy_11 (by decide) ?_
    refine lv_icmp_ne (tgt := 20) hx hb dX6_kindBy_13 (by decide) (fun c_13 => ?_) (fun c_13 => ?_)
    · refine lv_iload_n hx hb dX6_kindBy_20 rfl (lv_at hl 0 rfl) ?_
      refine lv_bipush (v := 108) hx hb dX6_kindBy_21 (by decide) ?_
      refine lv_icmp_ne (tgt := 30) hx hb dX6_kindBy_23 (by decide) (fun c_23 => ?_) (fun c_23 => ?_)
      · refine lv_iload_n hx hb dX6_kindBy_30 rfl (lv_at hl 0 rfl) ?_
        refine lv_bipush (v := 98) hx hb dX6_kindBy_31 (by decide) ?_
        refine lv_icmp_ne (tgt := 40) hx hb dX6_kindBy_33 (by decide) (fun c_33 => ?_) (fun c_33 => ?_)
        · refine lv_iload_n hx hb dX6_kindBy_40 rfl (lv_at hl 0 rfl) ?_
          refine lv_bipush (v := 109) hx hb dX6_kindBy_41 (by decide) ?_
          refine lv_icmp_ne (tgt := 50) hx hb dX6_kindBy_43 (by decide) (fun c_43 => ?_) (fun c_43 => ?_)
          · refine lv_iconst (v := (-1)) hx hb dX6_kindBy_50 (by decide) ?_
            exact W.iret (v := (-1)) hx hb hr (fun t ht hW => ⟨(-1), rfl, (by unfold kb; grind), ht⟩) (fun q h => by cases h) dX6_kindBy_51
          · refine lv_iconst (v := 4) hx hb dX6_kindBy_46 (by decide) ?_
            refine lv_goto (tgt := 51) hx hb dX6_kindBy_47 (by decide) ?_
            exact W.iret (v := 4) hx hb hr (fun t ht hW => ⟨4, rfl, (by unfold kb; grind), ht⟩) (fun q h => by cases h) dX6_kindBy_51
        · refine lv_iconst (v := 3) hx hb dX6_kindBy_36 (by decide) ?_
          refine lv_goto (tgt := 51) hx hb dX6_kindBy_37 (by decide) ?_
          exact W.iret (v := 3) hx hb hr (fun t ht hW => ⟨3, rfl, (by unfold kb; grind), ht⟩) (fun q h => by cases h) dX6_kindBy_51
      · refine lv_iconst (v := 2) hx hb dX6_kindBy_26 (by decide) ?_
        refine lv_goto (tgt := 51) hx hb dX6_kindBy_27 (by decide) ?_
        exact W.iret (v := 2) hx hb hr (fun t ht hW => ⟨2, rfl, (by unfold kb; grind), ht⟩) (fun q h => by cases h) dX6_kindBy_51
    · refine lv_iconst (v := 1) hx hb dX6_kindBy_16 (by decide) ?_
      refine lv_goto (tgt := 51) hx hb dX6_kindBy_17 (by decide) ?_
      exact W.iret (v := 1) hx hb hr (fun t ht hW => ⟨1, rfl, (by unfold kb; grind), ht⟩) (fun q h => by cases h) dX6_kindBy_51
  · refine lv_iconst (v := 0) hx hb dX6_kindBy_6 (by decide) ?_
    refine lv_goto (tgt := 51) hx hb dX6_kindBy_7 (by decide) ?_
    exact W.iret (v := 0) hx hb hr (fun t ht hW => ⟨0, rfl, (by unfold kb; grind), ht⟩) (fun q h => by cases h) dX6_kindBy_51

set_option maxHeartbeats 4000000 in
set_option maxRecDepth 100000 in
theorem c_X6_tenthsBy (l : Launch) (D : va_G) (cI cZ cA : ClassId) (kd0 : Int32) (fa0 : Int32) (hd0 : Int32)  : Met l yX6_tenthsBy wsX6_tenthsBy (zr 1) (va_Pc [.int kd0, .int fa0, .int hd0] (zPr D cI cZ cA [])) (vp_Si (fun r => r = tb kd0 fa0 hd0)) 0 0 (fun _ => False) := by
  refine Met.ofW (cc := cX6_tenthsBy) (maxL := 4) (ret := (some .int)) (by decide) rfl ?_
  intro p e s m args below meth c s₁ B hml hv
  obtain ⟨rfl, hP, hE⟩ := hv
  have hx := B.exec
  have hb := B.bytes
  have hr := B.returns
  have hts := atoms_spec (ws := wsX6_tenthsBy) B.pre
  have hown : s.vm.findClass RX6 = some m.cls := findClass_of_methodNamed B.named
  have hlocks := B.notSynchronized
  have hP : va_P D vwCl [] s.heap := hP
  have hl := lv_entry ([.int kd0, .int fa0, .int hd0]) (n := 4) (Nat.le_of_ble_eq_true rfl)
  rw [lg_entry_eq]
  generalize (lg_sl ([.int kd0, .int fa0, .int hd0]) ++ List.replicate (4 - (lg_sl ([.int kd0, .int fa0, .int hd0])).length) Slot.unset).toArray = ls at hl ⊢
  have hl : lv_has ls 4 [(0, .int kd0), (1, .int fa0), (2, .int hd0)] := hl
  refine lv_iload_n hx hb dX6_tenthsBy_0 rfl (lv_at hl 1 rfl) ?_
  refine lv_iconst (v := 5) hx hb dX6_tenthsBy_1 (by decide) ?_
  refine lv_iadd hx hb dX6_tenthsBy_2 ?_
  refine lv_iload_n hx hb dX6_tenthsBy_3 rfl (lv_at hl 2 rfl) ?_
  refine lv_isub hx hb dX6_tenthsBy_4 ?_
  refine lv_istore_n (lv' := [(3, .int ((fa0 + 5) - hd0)), (0, .int kd0), (1, .int fa0), (2, .int hd0)]) hx hb dX6_tenthsBy_5 rfl hl (by decide) rfl (fun ls hl => ?_)
  refine lv_iload_n hx hb dX6_tenthsBy_6 rfl (lv_at hl 1 rfl) ?_
  refine lv_iconst (v := 4) hx hb dX6_tenthsBy_7 (by decide) ?_
  refine lv_icmp_ne (tgt := 14) hx hb dX6_tenthsBy_8 (by decide) (fun c_8 => ?_) (fun c_8 => ?_)
  · refine lv_iload_n hx hb dX6_tenthsBy_14 rfl (lv_at hl 1 rfl) ?_
    refine lv_iconst (v := 3) hx hb dX6_tenthsBy_15 (by decide) ?_
    refine lv_icmp_ne (tgt := 23) hx hb dX6_tenthsBy_16 (by decide) (fun c_16 => ?_) (fun c_16 => ?_)
    · refine lv_iload_n hx hb dX6_tenthsBy_23 rfl (lv_at hl 1 rfl) ?_
      refine lv_iconst (v := 1) hx hb dX6_tenthsBy_24 (by decide) ?_
      refine lv_icmp_eq (tgt := 33) hx hb dX6_tenthsBy_25 (by decide) (fun c_25 => ?_) (fun c_25 => ?_)
      · refine lv_iload_n hx hb dX6_tenthsBy_33 rfl (lv_at hl 0 rfl) ?_
        refine lv_iconst (v := 3) hx hb dX6_tenthsBy_34 (by decide) ?_
        refine lv_icmp_ge (tgt := 42) hx hb dX6_tenthsBy_35 (by decide) (fun c_35 => ?_) (fun c_35 => ?_)
        · refine lv_iload_n hx hb dX6_tenthsBy_42 rfl (lv_at hl 0 rfl) ?_
          refine lv_istore_n (lv' := [(3, .int ((fa0 + 5) - hd0)), (0, .int kd0), (1, .int fa0), (2, .int hd0)]) hx hb dX6_tenthsBy_43 rfl hl (by decide) rfl (fun ls hl => ?_)
          refine lv_iload_n hx hb dX6_tenthsBy_44 rfl (lv_at hl 0 rfl) ?_
          refine lv_if_ge (tgt := 52) hx hb dX6_tenthsBy_45 (by decide) (fun c_45 => ?_) (fun c_45 => ?_)
          · refine lv_iload_n hx hb dX6_tenthsBy_52 rfl (lv_at hl 0 rfl) ?_
            refine lv_bipush (v := 10) hx hb dX6_tenthsBy_53 (by decide) ?_
            refine lv_icmp_le (tgt := 63) hx hb dX6_tenthsBy_55 (by decide) (fun c_55 => ?_) (fun c_55 => ?_)
            · refine lv_iload_n hx hb dX6_tenthsBy_63 rfl (lv_at hl 0 rfl) ?_
              exact W.iret (v := (fa0 + 5) - hd0) hx hb hr (fun t ht hW => ⟨((fa0 + 5) - hd0), rfl, (by unfold tb; grind), ht⟩) (fun q h => by cases h) dX6_tenthsBy_64
            · refine lv_bipush (v := 10) hx hb dX6_tenthsBy_58 (by decide) ?_
              refine lv_goto (tgt := 64) hx hb dX6_tenthsBy_60 (by decide) ?_
              exact W.iret (v := 10) hx hb hr (fun t ht hW => ⟨10, rfl, (by unfold tb; grind), ht⟩) (fun q h => by cases h) dX6_tenthsBy_64
          · refine lv_iconst (v := 0) hx hb dX6_tenthsBy_48 (by decide) ?_
            refine lv_goto (tgt := 64) hx hb dX6_tenthsBy_49 (by decide) ?_
            exact W.iret (v := 0) hx hb hr (fun t ht hW => ⟨0, rfl, (by unfold tb; grind), ht⟩) (fun q h => by cases h) dX6_tenthsBy_64
        · refine lv_iconst (v := 3) hx hb dX6_tenthsBy_38 (by decide) ?_
          refine lv_goto (tgt := 43) hx hb dX6_tenthsBy_39 (by decide) ?_
          refine lv_istore_n (lv' := [(3, .int 3), (0, .int kd0), (1, .int fa0), (2, .int hd0)]) hx hb dX6_tenthsBy_43 rfl hl (by decide) rfl (fun ls hl => ?_)
          refine lv_iload_n hx hb dX6_tenthsBy_44 rfl (lv_at hl 0 rfl) ?_
          refine lv_if_ge (tgt := 52) hx hb dX6_tenthsBy_45 (by decide) (fun c_45 => ?_) (fun c_45 => ?_)
          · have n_45 := zn_le (a := 0) (b := 3) rfl rfl c_45 (by omega) (by omega)
            refine lv_iload_n hx hb dX6_tenthsBy_52 rfl (lv_at hl 0 rfl) ?_
            refine lv_bipush (v := 10) hx hb dX6_tenthsBy_53 (by decide) ?_
            refine lv_icmp_le (tgt := 63) hx hb dX6_tenthsBy_55 (by decide) (fun c_55 => ?_) (fun c_55 => ?_)
            · have n_55 := zn_le (a := 3) (b := 10) rfl rfl c_55 (by omega) (by omega)
              refine lv_iload_n hx hb dX6_tenthsBy_63 rfl (lv_at hl 0 rfl) ?_
              exact W.iret (v := 3) hx hb hr (fun t ht hW => ⟨3, rfl, (by unfold tb; grind), ht⟩) (fun q h => by cases h) dX6_tenthsBy_64
            · have n_55 := zn_nle (a := 3) (b := 10) rfl rfl c_55 (by omega) (by omega)
              refine lv_bipush (v := 10) hx hb dX6_tenthsBy_58 (by decide) ?_
              refine lv_goto (tgt := 64) hx hb dX6_tenthsBy_60 (by decide) ?_
              exact W.iret (v := 10) hx hb hr (fun t ht hW => ⟨10, rfl, (by unfold tb; grind), ht⟩) (fun q h => by cases h) dX6_tenthsBy_64
          · have n_45 := zn_nle (a := 0) (b := 3) rfl rfl c_45 (by omega) (by omega)
            refine lv_iconst (v := 0) hx hb dX6_tenthsBy_48 (by decide) ?_
            refine lv_goto (tgt := 64) hx hb dX6_tenthsBy_49 (by decide) ?_
            exact W.iret (v := 0) hx hb hr (fun t ht hW => ⟨0, rfl, (by unfold tb; grind), ht⟩) (fun q h => by cases h) dX6_tenthsBy_64
      · refine lv_iload_n hx hb dX6_tenthsBy_28 rfl (lv_at hl 1 rfl) ?_
        refine lv_iconst (v := 4) hx hb dX6_tenthsBy_29 (by decide) ?_
        refine lv_icmp_ne (tgt := 44) hx hb dX6_tenthsBy_30 (by decide) (fun c_30 => ?_) (fun c_30 => ?_)
        · refine lv_iload_n hx hb dX6_tenthsBy_44 rfl (lv_at hl 0 rfl) ?_
          refine lv_if_ge (tgt := 52) hx hb dX6_tenthsBy_45 (by decide) (fun c_45 => ?_) (fun c_45 => ?_)
          · refine lv_iload_n hx hb dX6_tenthsBy_52 rfl (lv_at hl 0 rfl) ?_
            refine lv_bipush (v := 10) hx hb dX6_tenthsBy_53 (by decide) ?_
            refine lv_icmp_le (tgt := 63) hx hb dX6_tenthsBy_55 (by decide) (fun c_55 => ?_) (fun c_55 => ?_)
            · refine lv_iload_n hx hb dX6_tenthsBy_63 rfl (lv_at hl 0 rfl) ?_
              exact W.iret (v := (fa0 + 5) - hd0) hx hb hr (fun t ht hW => ⟨((fa0 + 5) - hd0), rfl, (by unfold tb; grind), ht⟩) (fun q h => by cases h) dX6_tenthsBy_64
            · refine lv_bipush (v := 10) hx hb dX6_tenthsBy_58 (by decide) ?_
              refine lv_goto (tgt := 64) hx hb dX6_tenthsBy_60 (by decide) ?_
              exact W.iret (v := 10) hx hb hr (fun t ht hW => ⟨10, rfl, (by unfold tb; grind), ht⟩) (fun q h => by cases h) dX6_tenthsBy_64
          · refine lv_iconst (v := 0) hx hb dX6_tenthsBy_48 (by decide) ?_
            refine lv_goto (tgt := 64) hx hb dX6_tenthsBy_49 (by decide) ?_
            exact W.iret (v := 0) hx hb hr (fun t ht hW => ⟨0, rfl, (by unfold tb; grind), ht⟩) (fun q h => by cases h) dX6_tenthsBy_64
        · refine lv_iload_n hx hb dX6_tenthsBy_33 rfl (lv_at hl 0 rfl) ?_
          refine lv_iconst (v := 3) hx hb dX6_tenthsBy_34 (by decide) ?_
          refine lv_icmp_ge (tgt := 42) hx hb dX6_tenthsBy_35 (by decide) (fun c_35 => ?_) (fun c_35 => ?_)
          · refine lv_iload_n hx hb dX6_tenthsBy_42 rfl (lv_at hl 0 rfl) ?_
            refine lv_istore_n (lv' := [(3, .int ((fa0 + 5) - hd0)), (0, .int kd0), (1, .int fa0), (2, .int hd0)]) hx hb dX6_tenthsBy_43 rfl hl (by decide) rfl (fun ls hl => ?_)
            refine lv_iload_n hx hb dX6_tenthsBy_44 rfl (lv_at hl 0 rfl) ?_
            refine lv_if_ge (tgt := 52) hx hb dX6_tenthsBy_45 (by decide) (fun c_45 => ?_) (fun c_45 => ?_)
            · refine lv_iload_n hx hb dX6_tenthsBy_52 rfl (lv_at hl 0 rfl) ?_
              refine lv_bipush (v := 10) hx hb dX6_tenthsBy_53 (by decide) ?_
              refine lv_icmp_le (tgt := 63) hx hb dX6_tenthsBy_55 (by decide) (fun c_55 => ?_) (fun c_55 => ?_)
              · refine lv_iload_n hx hb dX6_tenthsBy_63 rfl (lv_at hl 0 rfl) ?_
                exact W.iret (v := (fa0 + 5) - hd0) hx hb hr (fun t ht hW => ⟨((fa0 + 5) - hd0), rfl, (by unfold tb; grind), ht⟩) (fun q h => by cases h) dX6_tenthsBy_64
              · refine lv_bipush (v := 10) hx hb dX6_tenthsBy_58 (by decide) ?_
                refine lv_goto (tgt := 64) hx hb dX6_tenthsBy_60 (by decide) ?_
                exact W.iret (v := 10) hx hb hr (fun t ht hW => ⟨10, rfl, (by unfold tb; grind), ht⟩) (fun q h => by cases h) dX6_tenthsBy_64
            · refine lv_iconst (v := 0) hx hb dX6_tenthsBy_48 (by decide) ?_
              refine lv_goto (tgt := 64) hx hb dX6_tenthsBy_49 (by decide) ?_
              exact W.iret (v := 0) hx hb hr (fun t ht hW => ⟨0, rfl, (by unfold tb; grind), ht⟩) (fun q h => by cases h) dX6_tenthsBy_64
          · refine lv_iconst (v := 3) hx hb dX6_tenthsBy_38 (by decide) ?_
            refine lv_goto (tgt := 43) hx hb dX6_tenthsBy_39 (by decide) ?_
            refine lv_istore_n (lv' := [(3, .int 3), (0, .int kd0), (1, .int fa0), (2, .int hd0)]) hx hb dX6_tenthsBy_43 rfl hl (by decide) rfl (fun ls hl => ?_)
            refine lv_iload_n hx hb dX6_tenthsBy_44 rfl (lv_at hl 0 rfl) ?_
            refine lv_if_ge (tgt := 52) hx hb dX6_tenthsBy_45 (by decide) (fun c_45 => ?_) (fun c_45 => ?_)
            · have n_45 := zn_le (a := 0) (b := 3) rfl rfl c_45 (by omega) (by omega)
              refine lv_iload_n hx hb dX6_tenthsBy_52 rfl (lv_at hl 0 rfl) ?_
              refine lv_bipush (v := 10) hx hb dX6_tenthsBy_53 (by decide) ?_
              refine lv_icmp_le (tgt := 63) hx hb dX6_tenthsBy_55 (by decide) (fun c_55 => ?_) (fun c_55 => ?_)
              · have n_55 := zn_le (a := 3) (b := 10) rfl rfl c_55 (by omega) (by omega)
                refine lv_iload_n hx hb dX6_tenthsBy_63 rfl (lv_at hl 0 rfl) ?_
                exact W.iret (v := 3) hx hb hr (fun t ht hW => ⟨3, rfl, (by unfold tb; grind), ht⟩) (fun q h => by cases h) dX6_tenthsBy_64
              · have n_55 := zn_nle (a := 3) (b := 10) rfl rfl c_55 (by omega) (by omega)
                refine lv_bipush (v := 10) hx hb dX6_tenthsBy_58 (by decide) ?_
                refine lv_goto (tgt := 64) hx hb dX6_tenthsBy_60 (by decide) ?_
                exact W.iret (v := 10) hx hb hr (fun t ht hW => ⟨10, rfl, (by unfold tb; grind), ht⟩) (fun q h => by cases h) dX6_tenthsBy_64
            · have n_45 := zn_nle (a := 0) (b := 3) rfl rfl c_45 (by omega) (by omega)
              refine lv_iconst (v := 0) hx hb dX6_tenthsBy_48 (by decide) ?_
              refine lv_goto (tgt := 64) hx hb dX6_tenthsBy_49 (by decide) ?_
              exact W.iret (v := 0) hx hb hr (fun t ht hW => ⟨0, rfl, (by unfold tb; grind), ht⟩) (fun q h => by cases h) dX6_tenthsBy_64
    · refine lv_iload_n hx hb dX6_tenthsBy_19 rfl (lv_at hl 0 rfl) ?_
      refine lv_iload_n hx hb dX6_tenthsBy_20 rfl (lv_at hl 3 rfl) ?_
      refine lv_isub hx hb dX6_tenthsBy_21 ?_
      refine lv_istore_n (lv' := [(3, .int (((fa0 + 5) - hd0) - hd0)), (0, .int kd0), (1, .int fa0), (2, .int hd0)]) hx hb dX6_tenthsBy_22 rfl hl (by decide) rfl (fun ls hl => ?_)
      refine lv_iload_n hx hb dX6_tenthsBy_23 rfl (lv_at hl 1 rfl) ?_
      refine lv_iconst (v := 1) hx hb dX6_tenthsBy_24 (by decide) ?_
      refine lv_icmp_eq (tgt := 33) hx hb dX6_tenthsBy_25 (by decide) (fun c_25 => ?_) (fun c_25 => ?_)
      · refine lv_iload_n hx hb dX6_tenthsBy_33 rfl (lv_at hl 0 rfl) ?_
        refine lv_iconst (v := 3) hx hb dX6_tenthsBy_34 (by decide) ?_
        refine lv_icmp_ge (tgt := 42) hx hb dX6_tenthsBy_35 (by decide) (fun c_35 => ?_) (fun c_35 => ?_)
        · refine lv_iload_n hx hb dX6_tenthsBy_42 rfl (lv_at hl 0 rfl) ?_
          refine lv_istore_n (lv' := [(3, .int (((fa0 + 5) - hd0) - hd0)), (0, .int kd0), (1, .int fa0), (2, .int hd0)]) hx hb dX6_tenthsBy_43 rfl hl (by decide) rfl (fun ls hl => ?_)
          refine lv_iload_n hx hb dX6_tenthsBy_44 rfl (lv_at hl 0 rfl) ?_
          refine lv_if_ge (tgt := 52) hx hb dX6_tenthsBy_45 (by decide) (fun c_45 => ?_) (fun c_45 => ?_)
          · refine lv_iload_n hx hb dX6_tenthsBy_52 rfl (lv_at hl 0 rfl) ?_
            refine lv_bipush (v := 10) hx hb dX6_tenthsBy_53 (by decide) ?_
            refine lv_icmp_le (tgt := 63) hx hb dX6_tenthsBy_55 (by decide) (fun c_55 => ?_) (fun c_55 => ?_)
            · refine lv_iload_n hx hb dX6_tenthsBy_63 rfl (lv_at hl 0 rfl) ?_
              exact W.iret (v := ((fa0 + 5) - hd0) - hd0) hx hb hr (fun t ht hW => ⟨(((fa0 + 5) - hd0) - hd0), rfl, (by unfold tb; grind), ht⟩) (fun q h => by cases h) dX6_tenthsBy_64
            · refine lv_bipush (v := 10) hx hb dX6_tenthsBy_58 (by decide) ?_
              refine lv_goto (tgt := 64) hx hb dX6_tenthsBy_60 (by decide) ?_
              exact W.iret (v := 10) hx hb hr (fun t ht hW => ⟨10, rfl, (by unfold tb; grind), ht⟩) (fun q h => by cases h) dX6_tenthsBy_64
          · refine lv_iconst (v := 0) hx hb dX6_tenthsBy_48 (by decide) ?_
            refine lv_goto (tgt := 64) hx hb dX6_tenthsBy_49 (by decide) ?_
            exact W.iret (v := 0) hx hb hr (fun t ht hW => ⟨0, rfl, (by unfold tb; grind), ht⟩) (fun q h => by cases h) dX6_tenthsBy_64
        · refine lv_iconst (v := 3) hx hb dX6_tenthsBy_38 (by decide) ?_
          refine lv_goto (tgt := 43) hx hb dX6_tenthsBy_39 (by decide) ?_
          refine lv_istore_n (lv' := [(3, .int 3), (0, .int kd0), (1, .int fa0), (2, .int hd0)]) hx hb dX6_tenthsBy_43 rfl hl (by decide) rfl (fun ls hl => ?_)
          refine lv_iload_n hx hb dX6_tenthsBy_44 rfl (lv_at hl 0 rfl) ?_
          refine lv_if_ge (tgt := 52) hx hb dX6_tenthsBy_45 (by decide) (fun c_45 => ?_) (fun c_45 => ?_)
          · have n_45 := zn_le (a := 0) (b := 3) rfl rfl c_45 (by omega) (by omega)
            refine lv_iload_n hx hb dX6_tenthsBy_52 rfl (lv_at hl 0 rfl) ?_
            refine lv_bipush (v := 10) hx hb dX6_tenthsBy_53 (by decide) ?_
            refine lv_icmp_le (tgt := 63) hx hb dX6_tenthsBy_55 (by decide) (fun c_55 => ?_) (fun c_55 => ?_)
            · have n_55 := zn_le (a := 3) (b := 10) rfl rfl c_55 (by omega) (by omega)
              refine lv_iload_n hx hb dX6_tenthsBy_63 rfl (lv_at hl 0 rfl) ?_
              exact W.iret (v := 3) hx hb hr (fun t ht hW => ⟨3, rfl, (by unfold tb; grind), ht⟩) (fun q h => by cases h) dX6_tenthsBy_64
            · have n_55 := zn_nle (a := 3) (b := 10) rfl rfl c_55 (by omega) (by omega)
              refine lv_bipush (v := 10) hx hb dX6_tenthsBy_58 (by decide) ?_
              refine lv_goto (tgt := 64) hx hb dX6_tenthsBy_60 (by decide) ?_
              exact W.iret (v := 10) hx hb hr (fun t ht hW => ⟨10, rfl, (by unfold tb; grind), ht⟩) (fun q h => by cases h) dX6_tenthsBy_64
          · have n_45 := zn_nle (a := 0) (b := 3) rfl rfl c_45 (by omega) (by omega)
            refine lv_iconst (v := 0) hx hb dX6_tenthsBy_48 (by decide) ?_
            refine lv_goto (tgt := 64) hx hb dX6_tenthsBy_49 (by decide) ?_
            exact W.iret (v := 0) hx hb hr (fun t ht hW => ⟨0, rfl, (by unfold tb; grind), ht⟩) (fun q h => by cases h) dX6_tenthsBy_64
      · refine lv_iload_n hx hb dX6_tenthsBy_28 rfl (lv_at hl 1 rfl) ?_
        refine lv_iconst (v := 4) hx hb dX6_tenthsBy_29 (by decide) ?_
        refine lv_icmp_ne (tgt := 44) hx hb dX6_tenthsBy_30 (by decide) (fun c_30 => ?_) (fun c_30 => ?_)
        · refine lv_iload_n hx hb dX6_tenthsBy_44 rfl (lv_at hl 0 rfl) ?_
          refine lv_if_ge (tgt := 52) hx hb dX6_tenthsBy_45 (by decide) (fun c_45 => ?_) (fun c_45 => ?_)
          · refine lv_iload_n hx hb dX6_tenthsBy_52 rfl (lv_at hl 0 rfl) ?_
            refine lv_bipush (v := 10) hx hb dX6_tenthsBy_53 (by decide) ?_
            refine lv_icmp_le (tgt := 63) hx hb dX6_tenthsBy_55 (by decide) (fun c_55 => ?_) (fun c_55 => ?_)
            · refine lv_iload_n hx hb dX6_tenthsBy_63 rfl (lv_at hl 0 rfl) ?_
              exact W.iret (v := ((fa0 + 5) - hd0) - hd0) hx hb hr (fun t ht hW => ⟨(((fa0 + 5) - hd0) - hd0), rfl, (by unfold tb; grind), ht⟩) (fun q h => by cases h) dX6_tenthsBy_64
            · refine lv_bipush (v := 10) hx hb dX6_tenthsBy_58 (by decide) ?_
              refine lv_goto (tgt := 64) hx hb dX6_tenthsBy_60 (by decide) ?_
              exact W.iret (v := 10) hx hb hr (fun t ht hW => ⟨10, rfl, (by unfold tb; grind), ht⟩) (fun q h => by cases h) dX6_tenthsBy_64
          · refine lv_iconst (v := 0) hx hb dX6_tenthsBy_48 (by decide) ?_
            refine lv_goto (tgt := 64) hx hb dX6_tenthsBy_49 (by decide) ?_
            exact W.iret (v := 0) hx hb hr (fun t ht hW => ⟨0, rfl, (by unfold tb; grind), ht⟩) (fun q h => by cases h) dX6_tenthsBy_64
        · refine lv_iload_n hx hb dX6_tenthsBy_33 rfl (lv_at hl 0 rfl) ?_
          refine lv_iconst (v := 3) hx hb dX6_tenthsBy_34 (by decide) ?_
          refine lv_icmp_ge (tgt := 42) hx hb dX6_tenthsBy_35 (by decide) (fun c_35 => ?_) (fun c_35 => ?_)
          · refine lv_iload_n hx hb dX6_tenthsBy_42 rfl (lv_at hl 0 rfl) ?_
            refine lv_istore_n (lv' := [(3, .int (((fa0 + 5) - hd0) - hd0)), (0, .int kd0), (1, .int fa0), (2, .int hd0)]) hx hb dX6_tenthsBy_43 rfl hl (by decide) rfl (fun ls hl => ?_)
            refine lv_iload_n hx hb dX6_tenthsBy_44 rfl (lv_at hl 0 rfl) ?_
            refine lv_if_ge (tgt := 52) hx hb dX6_tenthsBy_45 (by decide) (fun c_45 => ?_) (fun c_45 => ?_)
            · refine lv_iload_n hx hb dX6_tenthsBy_52 rfl (lv_at hl 0 rfl) ?_
              refine lv_bipush (v := 10) hx hb dX6_tenthsBy_53 (by decide) ?_
              refine lv_icmp_le (tgt := 63) hx hb dX6_tenthsBy_55 (by decide) (fun c_55 => ?_) (fun c_55 => ?_)
              · refine lv_iload_n hx hb dX6_tenthsBy_63 rfl (lv_at hl 0 rfl) ?_
                exact W.iret (v := ((fa0 + 5) - hd0) - hd0) hx hb hr (fun t ht hW => ⟨(((fa0 + 5) - hd0) - hd0), rfl, (by unfold tb; grind), ht⟩) (fun q h => by cases h) dX6_tenthsBy_64
              · refine lv_bipush (v := 10) hx hb dX6_tenthsBy_58 (by decide) ?_
                refine lv_goto (tgt := 64) hx hb dX6_tenthsBy_60 (by decide) ?_
                exact W.iret (v := 10) hx hb hr (fun t ht hW => ⟨10, rfl, (by unfold tb; grind), ht⟩) (fun q h => by cases h) dX6_tenthsBy_64
            · refine lv_iconst (v := 0) hx hb dX6_tenthsBy_48 (by decide) ?_
              refine lv_goto (tgt := 64) hx hb dX6_tenthsBy_49 (by decide) ?_
              exact W.iret (v := 0) hx hb hr (fun t ht hW => ⟨0, rfl, (by unfold tb; grind), ht⟩) (fun q h => by cases h) dX6_tenthsBy_64
          · refine lv_iconst (v := 3) hx hb dX6_tenthsBy_38 (by decide) ?_
            refine lv_goto (tgt := 43) hx hb dX6_tenthsBy_39 (by decide) ?_
            refine lv_istore_n (lv' := [(3, .int 3), (0, .int kd0), (1, .int fa0), (2, .int hd0)]) hx hb dX6_tenthsBy_43 rfl hl (by decide) rfl (fun ls hl => ?_)
            refine lv_iload_n hx hb dX6_tenthsBy_44 rfl (lv_at hl 0 rfl) ?_
            refine lv_if_ge (tgt := 52) hx hb dX6_tenthsBy_45 (by decide) (fun c_45 => ?_) (fun c_45 => ?_)
            · have n_45 := zn_le (a := 0) (b := 3) rfl rfl c_45 (by omega) (by omega)
              refine lv_iload_n hx hb dX6_tenthsBy_52 rfl (lv_at hl 0 rfl) ?_
              refine lv_bipush (v := 10) hx hb dX6_tenthsBy_53 (by decide) ?_
              refine lv_icmp_le (tgt := 63) hx hb dX6_tenthsBy_55 (by decide) (fun c_55 => ?_) (fun c_55 => ?_)
              · have n_55 := zn_le (a := 3) (b := 10) rfl rfl c_55 (by omega) (by omega)
                refine lv_iload_n hx hb dX6_tenthsBy_63 rfl (lv_at hl 0 rfl) ?_
                exact W.iret (v := 3) hx hb hr (fun t ht hW => ⟨3, rfl, (by unfold tb; grind), ht⟩) (fun q h => by cases h) dX6_tenthsBy_64
              · have n_55 := zn_nle (a := 3) (b := 10) rfl rfl c_55 (by omega) (by omega)
                refine lv_bipush (v := 10) hx hb dX6_tenthsBy_58 (by decide) ?_
                refine lv_goto (tgt := 64) hx hb dX6_tenthsBy_60 (by decide) ?_
                exact W.iret (v := 10) hx hb hr (fun t ht hW => ⟨10, rfl, (by unfold tb; grind), ht⟩) (fun q h => by cases h) dX6_tenthsBy_64
            · have n_45 := zn_nle (a := 0) (b := 3) rfl rfl c_45 (by omega) (by omega)
              refine lv_iconst (v := 0) hx hb dX6_tenthsBy_48 (by decide) ?_
              refine lv_goto (tgt := 64) hx hb dX6_tenthsBy_49 (by decide) ?_
              exact W.iret (v := 0) hx hb hr (fun t ht hW => ⟨0, rfl, (by unfold tb; grind), ht⟩) (fun q h => by cases h) dX6_tenthsBy_64
  · refine lv_iinc (v := ((fa0 + 5) - hd0) + 2) (lv' := [(3, .int (((fa0 + 5) - hd0) + 2)), (0, .int kd0), (1, .int fa0), (2, .int hd0)]) hx hb dX6_tenthsBy_11 hl (k := 0) rfl rfl (by decide) rfl (fun ls hl => ?_)
    refine lv_iload_n hx hb dX6_tenthsBy_14 rfl (lv_at hl 1 rfl) ?_
    refine lv_iconst (v := 3) hx hb dX6_tenthsBy_15 (by decide) ?_
    refine lv_icmp_ne (tgt := 23) hx hb dX6_tenthsBy_16 (by decide) (fun c_16 => ?_) (fun c_16 => ?_)
    · refine lv_iload_n hx hb dX6_tenthsBy_23 rfl (lv_at hl 1 rfl) ?_
      refine lv_iconst (v := 1) hx hb dX6_tenthsBy_24 (by decide) ?_
      refine lv_icmp_eq (tgt := 33) hx hb dX6_tenthsBy_25 (by decide) (fun c_25 => ?_) (fun c_25 => ?_)
      · refine lv_iload_n hx hb dX6_tenthsBy_33 rfl (lv_at hl 0 rfl) ?_
        refine lv_iconst (v := 3) hx hb dX6_tenthsBy_34 (by decide) ?_
        refine lv_icmp_ge (tgt := 42) hx hb dX6_tenthsBy_35 (by decide) (fun c_35 => ?_) (fun c_35 => ?_)
        · refine lv_iload_n hx hb dX6_tenthsBy_42 rfl (lv_at hl 0 rfl) ?_
          refine lv_istore_n (lv' := [(3, .int (((fa0 + 5) - hd0) + 2)), (0, .int kd0), (1, .int fa0), (2, .int hd0)]) hx hb dX6_tenthsBy_43 rfl hl (by decide) rfl (fun ls hl => ?_)
          refine lv_iload_n hx hb dX6_tenthsBy_44 rfl (lv_at hl 0 rfl) ?_
          refine lv_if_ge (tgt := 52) hx hb dX6_tenthsBy_45 (by decide) (fun c_45 => ?_) (fun c_45 => ?_)
          · refine lv_iload_n hx hb dX6_tenthsBy_52 rfl (lv_at hl 0 rfl) ?_
            refine lv_bipush (v := 10) hx hb dX6_tenthsBy_53 (by decide) ?_
            refine lv_icmp_le (tgt := 63) hx hb dX6_tenthsBy_55 (by decide) (fun c_55 => ?_) (fun c_55 => ?_)
            · refine lv_iload_n hx hb dX6_tenthsBy_63 rfl (lv_at hl 0 rfl) ?_
              exact W.iret (v := ((fa0 + 5) - hd0) + 2) hx hb hr (fun t ht hW => ⟨(((fa0 + 5) - hd0) + 2), rfl, (by unfold tb; grind), ht⟩) (fun q h => by cases h) dX6_tenthsBy_64
            · refine lv_bipush (v := 10) hx hb dX6_tenthsBy_58 (by decide) ?_
              refine lv_goto (tgt := 64) hx hb dX6_tenthsBy_60 (by decide) ?_
              exact W.iret (v := 10) hx hb hr (fun t ht hW => ⟨10, rfl, (by unfold tb; grind), ht⟩) (fun q h => by cases h) dX6_tenthsBy_64
          · refine lv_iconst (v := 0) hx hb dX6_tenthsBy_48 (by decide) ?_
            refine lv_goto (tgt := 64) hx hb dX6_tenthsBy_49 (by decide) ?_
            exact W.iret (v := 0) hx hb hr (fun t ht hW => ⟨0, rfl, (by unfold tb; grind), ht⟩) (fun q h => by cases h) dX6_tenthsBy_64
        · refine lv_iconst (v := 3) hx hb dX6_tenthsBy_38 (by decide) ?_
          refine lv_goto (tgt := 43) hx hb dX6_tenthsBy_39 (by decide) ?_
          refine lv_istore_n (lv' := [(3, .int 3), (0, .int kd0), (1, .int fa0), (2, .int hd0)]) hx hb dX6_tenthsBy_43 rfl hl (by decide) rfl (fun ls hl => ?_)
          refine lv_iload_n hx hb dX6_tenthsBy_44 rfl (lv_at hl 0 rfl) ?_
          refine lv_if_ge (tgt := 52) hx hb dX6_tenthsBy_45 (by decide) (fun c_45 => ?_) (fun c_45 => ?_)
          · have n_45 := zn_le (a := 0) (b := 3) rfl rfl c_45 (by omega) (by omega)
            refine lv_iload_n hx hb dX6_tenthsBy_52 rfl (lv_at hl 0 rfl) ?_
            refine lv_bipush (v := 10) hx hb dX6_tenthsBy_53 (by decide) ?_
            refine lv_icmp_le (tgt := 63) hx hb dX6_tenthsBy_55 (by decide) (fun c_55 => ?_) (fun c_55 => ?_)
            · have n_55 := zn_le (a := 3) (b := 10) rfl rfl c_55 (by omega) (by omega)
              refine lv_iload_n hx hb dX6_tenthsBy_63 rfl (lv_at hl 0 rfl) ?_
              exact W.iret (v := 3) hx hb hr (fun t ht hW => ⟨3, rfl, (by unfold tb; grind), ht⟩) (fun q h => by cases h) dX6_tenthsBy_64
            · have n_55 := zn_nle (a := 3) (b := 10) rfl rfl c_55 (by omega) (by omega)
              refine lv_bipush (v := 10) hx hb dX6_tenthsBy_58 (by decide) ?_
              refine lv_goto (tgt := 64) hx hb dX6_tenthsBy_60 (by decide) ?_
              exact W.iret (v := 10) hx hb hr (fun t ht hW => ⟨10, rfl, (by unfold tb; grind), ht⟩) (fun q h => by cases h) dX6_tenthsBy_64
          · have n_45 := zn_nle (a := 0) (b := 3) rfl rfl c_45 (by omega) (by omega)
            refine lv_iconst (v := 0) hx hb dX6_tenthsBy_48 (by decide) ?_
            refine lv_goto (tgt := 64) hx hb dX6_tenthsBy_49 (by decide) ?_
            exact W.iret (v := 0) hx hb hr (fun t ht hW => ⟨0, rfl, (by unfold tb; grind), ht⟩) (fun q h => by cases h) dX6_tenthsBy_64
      · refine lv_iload_n hx hb dX6_tenthsBy_28 rfl (lv_at hl 1 rfl) ?_
        refine lv_iconst (v := 4) hx hb dX6_tenthsBy_29 (by decide) ?_
        refine lv_icmp_ne (tgt := 44) hx hb dX6_tenthsBy_30 (by decide) (fun c_30 => ?_) (fun c_30 => ?_)
        · refine lv_iload_n hx hb dX6_tenthsBy_44 rfl (lv_at hl 0 rfl) ?_
          refine lv_if_ge (tgt := 52) hx hb dX6_tenthsBy_45 (by decide) (fun c_45 => ?_) (fun c_45 => ?_)
          · refine lv_iload_n hx hb dX6_tenthsBy_52 rfl (lv_at hl 0 rfl) ?_
            refine lv_bipush (v := 10) hx hb dX6_tenthsBy_53 (by decide) ?_
            refine lv_icmp_le (tgt := 63) hx hb dX6_tenthsBy_55 (by decide) (fun c_55 => ?_) (fun c_55 => ?_)
            · refine lv_iload_n hx hb dX6_tenthsBy_63 rfl (lv_at hl 0 rfl) ?_
              exact W.iret (v := ((fa0 + 5) - hd0) + 2) hx hb hr (fun t ht hW => ⟨(((fa0 + 5) - hd0) + 2), rfl, (by unfold tb; grind), ht⟩) (fun q h => by cases h) dX6_tenthsBy_64
            · refine lv_bipush (v := 10) hx hb dX6_tenthsBy_58 (by decide) ?_
              refine lv_goto (tgt := 64) hx hb dX6_tenthsBy_60 (by decide) ?_
              exact W.iret (v := 10) hx hb hr (fun t ht hW => ⟨10, rfl, (by unfold tb; grind), ht⟩) (fun q h => by cases h) dX6_tenthsBy_64
          · refine lv_iconst (v := 0) hx hb dX6_tenthsBy_48 (by decide) ?_
            refine lv_goto (tgt := 64) hx hb dX6_tenthsBy_49 (by decide) ?_
            exact W.iret (v := 0) hx hb hr (fun t ht hW => ⟨0, rfl, (by unfold tb; grind), ht⟩) (fun q h => by cases h) dX6_tenthsBy_64
        · refine lv_iload_n hx hb dX6_tenthsBy_33 rfl (lv_at hl 0 rfl) ?_
          refine lv_iconst (v := 3) hx hb dX6_tenthsBy_34 (by decide) ?_
          refine lv_icmp_ge (tgt := 42) hx hb dX6_tenthsBy_35 (by decide) (fun c_35 => ?_) (fun c_35 => ?_)
          · refine lv_iload_n hx hb dX6_tenthsBy_42 rfl (lv_at hl 0 rfl) ?_
            refine lv_istore_n (lv' := [(3, .int (((fa0 + 5) - hd0) + 2)), (0, .int kd0), (1, .int fa0), (2, .int hd0)]) hx hb dX6_tenthsBy_43 rfl hl (by decide) rfl (fun ls hl => ?_)
            refine lv_iload_n hx hb dX6_tenthsBy_44 rfl (lv_at hl 0 rfl) ?_
            refine lv_if_ge (tgt := 52) hx hb dX6_tenthsBy_45 (by decide) (fun c_45 => ?_) (fun c_45 => ?_)
            · refine lv_iload_n hx hb dX6_tenthsBy_52 rfl (lv_at hl 0 rfl) ?_
              refine lv_bipush (v := 10) hx hb dX6_tenthsBy_53 (by decide) ?_
              refine lv_icmp_le (tgt := 63) hx hb dX6_tenthsBy_55 (by decide) (fun c_55 => ?_) (fun c_55 => ?_)
              · refine lv_iload_n hx hb dX6_tenthsBy_63 rfl (lv_at hl 0 rfl) ?_
                exact W.iret (v := ((fa0 + 5) - hd0) + 2) hx hb hr (fun t ht hW => ⟨(((fa0 + 5) - hd0) + 2), rfl, (by unfold tb; grind), ht⟩) (fun q h => by cases h) dX6_tenthsBy_64
              · refine lv_bipush (v := 10) hx hb dX6_tenthsBy_58 (by decide) ?_
                refine lv_goto (tgt := 64) hx hb dX6_tenthsBy_60 (by decide) ?_
                exact W.iret (v := 10) hx hb hr (fun t ht hW => ⟨10, rfl, (by unfold tb; grind), ht⟩) (fun q h => by cases h) dX6_tenthsBy_64
            · refine lv_iconst (v := 0) hx hb dX6_tenthsBy_48 (by decide) ?_
              refine lv_goto (tgt := 64) hx hb dX6_tenthsBy_49 (by decide) ?_
              exact W.iret (v := 0) hx hb hr (fun t ht hW => ⟨0, rfl, (by unfold tb; grind), ht⟩) (fun q h => by cases h) dX6_tenthsBy_64
          · refine lv_iconst (v := 3) hx hb dX6_tenthsBy_38 (by decide) ?_
            refine lv_goto (tgt := 43) hx hb dX6_tenthsBy_39 (by decide) ?_
            refine lv_istore_n (lv' := [(3, .int 3), (0, .int kd0), (1, .int fa0), (2, .int hd0)]) hx hb dX6_tenthsBy_43 rfl hl (by decide) rfl (fun ls hl => ?_)
            refine lv_iload_n hx hb dX6_tenthsBy_44 rfl (lv_at hl 0 rfl) ?_
            refine lv_if_ge (tgt := 52) hx hb dX6_tenthsBy_45 (by decide) (fun c_45 => ?_) (fun c_45 => ?_)
            · have n_45 := zn_le (a := 0) (b := 3) rfl rfl c_45 (by omega) (by omega)
              refine lv_iload_n hx hb dX6_tenthsBy_52 rfl (lv_at hl 0 rfl) ?_
              refine lv_bipush (v := 10) hx hb dX6_tenthsBy_53 (by decide) ?_
              refine lv_icmp_le (tgt := 63) hx hb dX6_tenthsBy_55 (by decide) (fun c_55 => ?_) (fun c_55 => ?_)
              · have n_55 := zn_le (a := 3) (b := 10) rfl rfl c_55 (by omega) (by omega)
                refine lv_iload_n hx hb dX6_tenthsBy_63 rfl (lv_at hl 0 rfl) ?_
                exact W.iret (v := 3) hx hb hr (fun t ht hW => ⟨3, rfl, (by unfold tb; grind), ht⟩) (fun q h => by cases h) dX6_tenthsBy_64
              · have n_55 := zn_nle (a := 3) (b := 10) rfl rfl c_55 (by omega) (by omega)
                refine lv_bipush (v := 10) hx hb dX6_tenthsBy_58 (by decide) ?_
                refine lv_goto (tgt := 64) hx hb dX6_tenthsBy_60 (by decide) ?_
                exact W.iret (v := 10) hx hb hr (fun t ht hW => ⟨10, rfl, (by unfold tb; grind), ht⟩) (fun q h => by cases h) dX6_tenthsBy_64
            · have n_45 := zn_nle (a := 0) (b := 3) rfl rfl c_45 (by omega) (by omega)
              refine lv_iconst (v := 0) hx hb dX6_tenthsBy_48 (by decide) ?_
              refine lv_goto (tgt := 64) hx hb dX6_tenthsBy_49 (by decide) ?_
              exact W.iret (v := 0) hx hb hr (fun t ht hW => ⟨0, rfl, (by unfold tb; grind), ht⟩) (fun q h => by cases h) dX6_tenthsBy_64
    · refine lv_iload_n hx hb dX6_tenthsBy_19 rfl (lv_at hl 0 rfl) ?_
      refine lv_iload_n hx hb dX6_tenthsBy_20 rfl (lv_at hl 3 rfl) ?_
      refine lv_isub hx hb dX6_tenthsBy_21 ?_
      refine lv_istore_n (lv' := [(3, .int ((((fa0 + 5) - hd0) + 2) - hd0)), (0, .int kd0), (1, .int fa0), (2, .int hd0)]) hx hb dX6_tenthsBy_22 rfl hl (by decide) rfl (fun ls hl => ?_)
      refine lv_iload_n hx hb dX6_tenthsBy_23 rfl (lv_at hl 1 rfl) ?_
      refine lv_iconst (v := 1) hx hb dX6_tenthsBy_24 (by decide) ?_
      refine lv_icmp_eq (tgt := 33) hx hb dX6_tenthsBy_25 (by decide) (fun c_25 => ?_) (fun c_25 => ?_)
      · refine lv_iload_n hx hb dX6_tenthsBy_33 rfl (lv_at hl 0 rfl) ?_
        refine lv_iconst (v := 3) hx hb dX6_tenthsBy_34 (by decide) ?_
        refine lv_icmp_ge (tgt := 42) hx hb dX6_tenthsBy_35 (by decide) (fun c_35 => ?_) (fun c_35 => ?_)
        · refine lv_iload_n hx hb dX6_tenthsBy_42 rfl (lv_at hl 0 rfl) ?_
          refine lv_istore_n (lv' := [(3, .int ((((fa0 + 5) - hd0) + 2) - hd0)), (0, .int kd0), (1, .int fa0), (2, .int hd0)]) hx hb dX6_tenthsBy_43 rfl hl (by decide) rfl (fun ls hl => ?_)
          refine lv_iload_n hx hb dX6_tenthsBy_44 rfl (lv_at hl 0 rfl) ?_
          refine lv_if_ge (tgt := 52) hx hb dX6_tenthsBy_45 (by decide) (fun c_45 => ?_) (fun c_45 => ?_)
          · refine lv_iload_n hx hb dX6_tenthsBy_52 rfl (lv_at hl 0 rfl) ?_
            refine lv_bipush (v := 10) hx hb dX6_tenthsBy_53 (by decide) ?_
            refine lv_icmp_le (tgt := 63) hx hb dX6_tenthsBy_55 (by decide) (fun c_55 => ?_) (fun c_55 => ?_)
            · refine lv_iload_n hx hb dX6_tenthsBy_63 rfl (lv_at hl 0 rfl) ?_
              exact W.iret (v := (((fa0 + 5) - hd0) + 2) - hd0) hx hb hr (fun t ht hW => ⟨((((fa0 + 5) - hd0) + 2) - hd0), rfl, (by unfold tb; grind), ht⟩) (fun q h => by cases h) dX6_tenthsBy_64
            · refine lv_bipush (v := 10) hx hb dX6_tenthsBy_58 (by decide) ?_
              refine lv_goto (tgt := 64) hx hb dX6_tenthsBy_60 (by decide) ?_
              exact W.iret (v := 10) hx hb hr (fun t ht hW => ⟨10, rfl, (by unfold tb; grind), ht⟩) (fun q h => by cases h) dX6_tenthsBy_64
          · refine lv_iconst (v := 0) hx hb dX6_tenthsBy_48 (by decide) ?_
            refine lv_goto (tgt := 64) hx hb dX6_tenthsBy_49 (by decide) ?_
            exact W.iret (v := 0) hx hb hr (fun t ht hW => ⟨0, rfl, (by unfold tb; grind), ht⟩) (fun q h => by cases h) dX6_tenthsBy_64
        · refine lv_iconst (v := 3) hx hb dX6_tenthsBy_38 (by decide) ?_
          refine lv_goto (tgt := 43) hx hb dX6_tenthsBy_39 (by decide) ?_
          refine lv_istore_n (lv' := [(3, .int 3), (0, .int kd0), (1, .int fa0), (2, .int hd0)]) hx hb dX6_tenthsBy_43 rfl hl (by decide) rfl (fun ls hl => ?_)
          refine lv_iload_n hx hb dX6_tenthsBy_44 rfl (lv_at hl 0 rfl) ?_
          refine lv_if_ge (tgt := 52) hx hb dX6_tenthsBy_45 (by decide) (fun c_45 => ?_) (fun c_45 => ?_)
          · have n_45 := zn_le (a := 0) (b := 3) rfl rfl c_45 (by omega) (by omega)
            refine lv_iload_n hx hb dX6_tenthsBy_52 rfl (lv_at hl 0 rfl) ?_
            refine lv_bipush (v := 10) hx hb dX6_tenthsBy_53 (by decide) ?_
            refine lv_icmp_le (tgt := 63) hx hb dX6_tenthsBy_55 (by decide) (fun c_55 => ?_) (fun c_55 => ?_)
            · have n_55 := zn_le (a := 3) (b := 10) rfl rfl c_55 (by omega) (by omega)
              refine lv_iload_n hx hb dX6_tenthsBy_63 rfl (lv_at hl 0 rfl) ?_
              exact W.iret (v := 3) hx hb hr (fun t ht hW => ⟨3, rfl, (by unfold tb; grind), ht⟩) (fun q h => by cases h) dX6_tenthsBy_64
            · have n_55 := zn_nle (a := 3) (b := 10) rfl rfl c_55 (by omega) (by omega)
              refine lv_bipush (v := 10) hx hb dX6_tenthsBy_58 (by decide) ?_
              refine lv_goto (tgt := 64) hx hb dX6_tenthsBy_60 (by decide) ?_
              exact W.iret (v := 10) hx hb hr (fun t ht hW => ⟨10, rfl, (by unfold tb; grind), ht⟩) (fun q h => by cases h) dX6_tenthsBy_64
          · have n_45 := zn_nle (a := 0) (b := 3) rfl rfl c_45 (by omega) (by omega)
            refine lv_iconst (v := 0) hx hb dX6_tenthsBy_48 (by decide) ?_
            refine lv_goto (tgt := 64) hx hb dX6_tenthsBy_49 (by decide) ?_
            exact W.iret (v := 0) hx hb hr (fun t ht hW => ⟨0, rfl, (by unfold tb; grind), ht⟩) (fun q h => by cases h) dX6_tenthsBy_64
      · refine lv_iload_n hx hb dX6_tenthsBy_28 rfl (lv_at hl 1 rfl) ?_
        refine lv_iconst (v := 4) hx hb dX6_tenthsBy_29 (by decide) ?_
        refine lv_icmp_ne (tgt := 44) hx hb dX6_tenthsBy_30 (by decide) (fun c_30 => ?_) (fun c_30 => ?_)
        · refine lv_iload_n hx hb dX6_tenthsBy_44 rfl (lv_at hl 0 rfl) ?_
          refine lv_if_ge (tgt := 52) hx hb dX6_tenthsBy_45 (by decide) (fun c_45 => ?_) (fun c_45 => ?_)
          · refine lv_iload_n hx hb dX6_tenthsBy_52 rfl (lv_at hl 0 rfl) ?_
            refine lv_bipush (v := 10) hx hb dX6_tenthsBy_53 (by decide) ?_
            refine lv_icmp_le (tgt := 63) hx hb dX6_tenthsBy_55 (by decide) (fun c_55 => ?_) (fun c_55 => ?_)
            · refine lv_iload_n hx hb dX6_tenthsBy_63 rfl (lv_at hl 0 rfl) ?_
              exact W.iret (v := (((fa0 + 5) - hd0) + 2) - hd0) hx hb hr (fun t ht hW => ⟨((((fa0 + 5) - hd0) + 2) - hd0), rfl, (by unfold tb; grind), ht⟩) (fun q h => by cases h) dX6_tenthsBy_64
            · refine lv_bipush (v := 10) hx hb dX6_tenthsBy_58 (by decide) ?_
              refine lv_goto (tgt := 64) hx hb dX6_tenthsBy_60 (by decide) ?_
              exact W.iret (v := 10) hx hb hr (fun t ht hW => ⟨10, rfl, (by unfold tb; grind), ht⟩) (fun q h => by cases h) dX6_tenthsBy_64
          · refine lv_iconst (v := 0) hx hb dX6_tenthsBy_48 (by decide) ?_
            refine lv_goto (tgt := 64) hx hb dX6_tenthsBy_49 (by decide) ?_
            exact W.iret (v := 0) hx hb hr (fun t ht hW => ⟨0, rfl, (by unfold tb; grind), ht⟩) (fun q h => by cases h) dX6_tenthsBy_64
        · refine lv_iload_n hx hb dX6_tenthsBy_33 rfl (lv_at hl 0 rfl) ?_
          refine lv_iconst (v := 3) hx hb dX6_tenthsBy_34 (by decide) ?_
          refine lv_icmp_ge (tgt := 42) hx hb dX6_tenthsBy_35 (by decide) (fun c_35 => ?_) (fun c_35 => ?_)
          · refine lv_iload_n hx hb dX6_tenthsBy_42 rfl (lv_at hl 0 rfl) ?_
            refine lv_istore_n (lv' := [(3, .int ((((fa0 + 5) - hd0) + 2) - hd0)), (0, .int kd0), (1, .int fa0), (2, .int hd0)]) hx hb dX6_tenthsBy_43 rfl hl (by decide) rfl (fun ls hl => ?_)
            refine lv_iload_n hx hb dX6_tenthsBy_44 rfl (lv_at hl 0 rfl) ?_
            refine lv_if_ge (tgt := 52) hx hb dX6_tenthsBy_45 (by decide) (fun c_45 => ?_) (fun c_45 => ?_)
            · refine lv_iload_n hx hb dX6_tenthsBy_52 rfl (lv_at hl 0 rfl) ?_
              refine lv_bipush (v := 10) hx hb dX6_tenthsBy_53 (by decide) ?_
              refine lv_icmp_le (tgt := 63) hx hb dX6_tenthsBy_55 (by decide) (fun c_55 => ?_) (fun c_55 => ?_)
              · refine lv_iload_n hx hb dX6_tenthsBy_63 rfl (lv_at hl 0 rfl) ?_
                exact W.iret (v := (((fa0 + 5) - hd0) + 2) - hd0) hx hb hr (fun t ht hW => ⟨((((fa0 + 5) - hd0) + 2) - hd0), rfl, (by unfold tb; grind), ht⟩) (fun q h => by cases h) dX6_tenthsBy_64
              · refine lv_bipush (v := 10) hx hb dX6_tenthsBy_58 (by decide) ?_
                refine lv_goto (tgt := 64) hx hb dX6_tenthsBy_60 (by decide) ?_
                exact W.iret (v := 10) hx hb hr (fun t ht hW => ⟨10, rfl, (by unfold tb; grind), ht⟩) (fun q h => by cases h) dX6_tenthsBy_64
            · refine lv_iconst (v := 0) hx hb dX6_tenthsBy_48 (by decide) ?_
              refine lv_goto (tgt := 64) hx hb dX6_tenthsBy_49 (by decide) ?_
              exact W.iret (v := 0) hx hb hr (fun t ht hW => ⟨0, rfl, (by unfold tb; grind), ht⟩) (fun q h => by cases h) dX6_tenthsBy_64
          · refine lv_iconst (v := 3) hx hb dX6_tenthsBy_38 (by decide) ?_
            refine lv_goto (tgt := 43) hx hb dX6_tenthsBy_39 (by decide) ?_
            refine lv_istore_n (lv' := [(3, .int 3), (0, .int kd0), (1, .int fa0), (2, .int hd0)]) hx hb dX6_tenthsBy_43 rfl hl (by decide) rfl (fun ls hl => ?_)
            refine lv_iload_n hx hb dX6_tenthsBy_44 rfl (lv_at hl 0 rfl) ?_
            refine lv_if_ge (tgt := 52) hx hb dX6_tenthsBy_45 (by decide) (fun c_45 => ?_) (fun c_45 => ?_)
            · have n_45 := zn_le (a := 0) (b := 3) rfl rfl c_45 (by omega) (by omega)
              refine lv_iload_n hx hb dX6_tenthsBy_52 rfl (lv_at hl 0 rfl) ?_
              refine lv_bipush (v := 10) hx hb dX6_tenthsBy_53 (by decide) ?_
              refine lv_icmp_le (tgt := 63) hx hb dX6_tenthsBy_55 (by decide) (fun c_55 => ?_) (fun c_55 => ?_)
              · have n_55 := zn_le (a := 3) (b := 10) rfl rfl c_55 (by omega) (by omega)
                refine lv_iload_n hx hb dX6_tenthsBy_63 rfl (lv_at hl 0 rfl) ?_
                exact W.iret (v := 3) hx hb hr (fun t ht hW => ⟨3, rfl, (by unfold tb; grind), ht⟩) (fun q h => by cases h) dX6_tenthsBy_64
              · have n_55 := zn_nle (a := 3) (b := 10) rfl rfl c_55 (by omega) (by omega)
                refine lv_bipush (v := 10) hx hb dX6_tenthsBy_58 (by decide) ?_
                refine lv_goto (tgt := 64) hx hb dX6_tenthsBy_60 (by decide) ?_
                exact W.iret (v := 10) hx hb hr (fun t ht hW => ⟨10, rfl, (by unfold tb; grind), ht⟩) (fun q h => by cases h) dX6_tenthsBy_64
            · have n_45 := zn_nle (a := 0) (b := 3) rfl rfl c_45 (by omega) (by omega)
              refine lv_iconst (v := 0) hx hb dX6_tenthsBy_48 (by decide) ?_
              refine lv_goto (tgt := 64) hx hb dX6_tenthsBy_49 (by decide) ?_
              exact W.iret (v := 0) hx hb hr (fun t ht hW => ⟨0, rfl, (by unfold tb; grind), ht⟩) (fun q h => by cases h) dX6_tenthsBy_64

set_option maxHeartbeats 4000000 in
set_option maxRecDepth 100000 in
theorem c_X6_lacks (l : Launch) (D : va_G) (cI cZ cA : ClassId) (mo : Nat) (apg : Nat) (P : Nat) (ea : Int32) (K : Nat) (Hn : Nat) (ym : Int32) (tm : Int32) (arw : Nat) (ans : Nat) (aro : Nat) (abo : Nat) (Sm : Nat) (asi : Nat) (sd : Int32) (asv : Nat) (kt : Int32) (ky : Int32) (ks : Nat) (akr : Nat) (akn : Nat) (aks : Nat) (ha : Int64) (hH : Hn ≤ 5) : Met l yX6_lacks wsX6_lacks (zr 1) (va_Pc [.ref mo] (zPr D cI cZ cA [(mo, .inr (6, [.ref apg, .int (nI P), .int ea, .int (nI K), .int (nI Hn), .int ym, .int tm, .ref arw, .ref ans, .ref aro, .ref abo, .int (nI Sm), .ref asi, .int sd, .ref asv, .int kt, .int ky, .int (nI ks), .ref akr, .ref akn, .ref aks, .long ha]))])) (vp_Si (fun r => r = zb (Hn = 0))) 0 0 (fun _ => False) := by
  refine Met.ofW (cc := cX6_lacks) (maxL := 1) (ret := (some .boolean)) (by decide) rfl ?_
  intro p e s m args below meth c s₁ B hml hv
  obtain ⟨rfl, hP, hE⟩ := hv
  have hx := B.exec
  have hb := B.bytes
  have hr := B.returns
  have hts := atoms_spec (ws := wsX6_lacks) B.pre
  have hown : s.vm.findClass RX6 = some m.cls := findClass_of_methodNamed B.named
  have hlocks := B.notSynchronized
  have hP : va_P D vwCl [(mo, .inr (6, [.ref apg, .int (nI P), .int ea, .int (nI K), .int (nI Hn), .int ym, .int tm, .ref arw, .ref ans, .ref aro, .ref abo, .int (nI Sm), .ref asi, .int sd, .ref asv, .int kt, .int ky, .int (nI ks), .ref akr, .ref akn, .ref aks, .long ha]))] s.heap := hP
  have hl := lv_entry ([.ref mo]) (n := 1) (Nat.le_of_ble_eq_true rfl)
  rw [lg_entry_eq]
  generalize (lg_sl ([.ref mo]) ++ List.replicate (1 - (lg_sl ([.ref mo])).length) Slot.unset).toArray = ls at hl ⊢
  have hl : lv_has ls 1 [(0, .ref mo)] := hl
  have hinX6 : ∀ w ∈ wsX60, w ∈ wsX6_lacks := fun w h => List.mem_cons_of_mem _ (List.mem_append_right _ h)
  have k_0 := hts (.fieldLink RX6 75 "VowDovesModel" "holes" "I") (by decide +kernel)
  refine lv_aload_n hx hb dX6_lacks_0 rfl (lv_at hl 0 rfl) ?_
  refine va_get (D := D) (ci := 6) (v := .int (nI Hn)) (C := RX6) (T := TX6) (N := 22) hx hb hts hinX6 hown hE.1 hP 0 rfl rfl 4 (by decide) k_0 (fun _ h9 => h9) rfl dX6_lacks_1 ?_
  refine lv_if_ne (tgt := 11) hx hb dX6_lacks_4 (by decide) (fun c_4 => ?_) (fun c_4 => ?_)
  · have n_4 := zn_ne (a := Hn) (b := 0) rfl rfl c_4 (by omega) (by omega)
    refine lv_iconst (v := 0) hx hb dX6_lacks_11 (by decide) ?_
    exact W.zret (v := 0) hx hb hr rfl (fun t ht hW => ⟨0, rfl, (by unfold zb; grind), ht⟩) (fun q h => by cases h) dX6_lacks_12
  · have n_4 := zn_eq (a := Hn) (b := 0) rfl rfl c_4 (by omega) (by omega)
    refine lv_iconst (v := 1) hx hb dX6_lacks_7 (by decide) ?_
    refine lv_goto (tgt := 12) hx hb dX6_lacks_8 (by decide) ?_
    exact W.zret (v := 1) hx hb hr rfl (fun t ht hW => ⟨1, rfl, (by unfold zb; grind), ht⟩) (fun q h => by cases h) dX6_lacks_12

set_option maxHeartbeats 4000000 in
set_option maxRecDepth 100000 in
theorem c_X6_isKeeper (l : Launch) (D : va_G) (cI cZ cA : ClassId) (mo : Nat) (apg : Nat) (P : Nat) (ea : Int32) (K : Nat) (Hn : Nat) (ym : Int32) (tm : Int32) (arw : Nat) (ans : Nat) (aro : Nat) (abo : Nat) (Sm : Nat) (asi : Nat) (sd : Int32) (asv : Nat) (kt : Int32) (ky : Int32) (ks : Nat) (akr : Nat) (akn : Nat) (aks : Nat) (ha : Int64) (k : Int32) (hK : K ≤ 5) : Met l yX6_isKeeper wsX6_isKeeper (zr 2) (va_Pc [.ref mo, .int k] (zPr D cI cZ cA [(mo, .inr (6, [.ref apg, .int (nI P), .int ea, .int (nI K), .int (nI Hn), .int ym, .int tm, .ref arw, .ref ans, .ref aro, .ref abo, .int (nI Sm), .ref asi, .int sd, .ref asv, .int kt, .int ky, .int (nI ks), .ref akr, .ref akn, .ref aks, .long ha]))])) (vp_Si (fun r => r = zb (¬ k < 0 ∧ k < nI K))) 0 0 (fun _ => False) := by
  refine Met.ofW (cc := cX6_isKeeper) (maxL := 2) (ret := (some .boolean)) (by decide) rfl ?_
  intro p e s m args below meth c s₁ B hml hv
  obtain ⟨rfl, hP, hE⟩ := hv
  have hx := B.exec
  have hb := B.bytes
  have hr := B.returns
  have hts := atoms_spec (ws := wsX6_isKeeper) B.pre
  have hown : s.vm.findClass RX6 = some m.cls := findClass_of_methodNamed B.named
  have hlocks := B.notSynchronized
  have hP : va_P D vwCl [(mo, .inr (6, [.ref apg, .int (nI P), .int ea, .int (nI K), .int (nI Hn), .int ym, .int tm, .ref arw, .ref ans, .ref aro, .ref abo, .int (nI Sm), .ref asi, .int sd, .ref asv, .int kt, .int ky, .int (nI ks), .ref akr, .ref akn, .ref aks, .long ha]))] s.heap := hP
  have hl := lv_entry ([.ref mo, .int k]) (n := 2) (Nat.le_of_ble_eq_true rfl)
  rw [lg_entry_eq]
  generalize (lg_sl ([.ref mo, .int k]) ++ List.replicate (2 - (lg_sl ([.ref mo, .int k])).length) Slot.unset).toArray = ls at hl ⊢
  have hl : lv_has ls 2 [(0, .ref mo), (1, .int k)] := hl
  have hinX6 : ∀ w ∈ wsX60, w ∈ wsX6_isKeeper := fun w h => List.mem_cons_of_mem _ (List.mem_append_right _ h)
  have k_0 := hts (.fieldLink RX6 72 "VowDovesModel" "keepers" "I") (by decide +kernel)
  refine lv_iload_n hx hb dX6_isKeeper_0 rfl (lv_at hl 1 rfl) ?_
  refine lv_i2l (v := (k : Int32).toInt64) hx hb dX6_isKeeper_1 rfl ?_
  refine lv_lconst (v := 0) hx hb dX6_isKeeper_2 (by decide) ?_
  refine lv_aload_n hx hb dX6_isKeeper_3 rfl (lv_at hl 0 rfl) ?_
  refine va_get (D := D) (ci := 6) (v := .int (nI K)) (C := RX6) (T := TX6) (N := 22) hx hb hts hinX6 hown hE.1 hP 0 rfl rfl 3 (by decide) k_0 (fun _ h9 => h9) rfl dX6_isKeeper_4 ?_
  refine lv_iconst (v := 1) hx hb dX6_isKeeper_7 (by decide) ?_
  refine lv_isub hx hb dX6_isKeeper_8 ?_
  refine lv_i2l (v := ((nI K) - 1 : Int32).toInt64) hx hb dX6_isKeeper_9 rfl ?_
  refine z_roSi (As := [.long ((k : Int32).toInt64), .long 0, .long (((nI K) - 1 : Int32).toInt64)]) (rest := []) ⟨hx, hb, hml, hown, hts⟩ (c_X6_in l D cI cZ cA ((k : Int32).toInt64) 0 (((nI K) - 1 : Int32).toInt64) ) (va_cwS 3 hts gX6_isKeeper_X6_in rfl rfl rfl (by decide +kernel) ⟨Nat.le_of_ble_eq_true rfl, Nat.le_of_ble_eq_true rfl⟩) hE hP [] rfl rfl hl.1 rfl (Nat.le_of_ble_eq_true rfl) dX6_isKeeper_10 ⟨Nat.zero_le _, Nat.zero_le _⟩ ?_
  exact W.zret (v := (zb (0 ≤ ((k : Int32).toInt64) ∧ ((k : Int32).toInt64) ≤ (((nI K) - 1 : Int32).toInt64)))) hx hb hr zb_nar (fun t ht hW => ⟨(zb (0 ≤ ((k : Int32).toInt64) ∧ ((k : Int32).toInt64) ≤ (((nI K) - 1 : Int32).toInt64))), rfl, (zb_c (zkeep (by omega))), ht⟩) (fun q h => by cases h) dX6_isKeeper_13

set_option maxHeartbeats 4000000 in
set_option maxRecDepth 100000 in
theorem c_X6_isHole (l : Launch) (D : va_G) (cI cZ cA : ClassId) (mo : Nat) (apg : Nat) (P : Nat) (ea : Int32) (K : Nat) (Hn : Nat) (ym : Int32) (tm : Int32) (arw : Nat) (ans : Nat) (aro : Nat) (abo : Nat) (Sm : Nat) (asi : Nat) (sd : Int32) (asv : Nat) (kt : Int32) (ky : Int32) (ks : Nat) (akr : Nat) (akn : Nat) (aks : Nat) (ha : Int64) (k : Int32) (hH : Hn ≤ 5) : Met l yX6_isHole wsX6_isHole (zr 2) (va_Pc [.ref mo, .int k] (zPr D cI cZ cA [(mo, .inr (6, [.ref apg, .int (nI P), .int ea, .int (nI K), .int (nI Hn), .int ym, .int tm, .ref arw, .ref ans, .ref aro, .ref abo, .int (nI Sm), .ref asi, .int sd, .ref asv, .int kt, .int ky, .int (nI ks), .ref akr, .ref akn, .ref aks, .long ha]))])) (vp_Si (fun r => r = zb (¬ k < 0 ∧ k < nI Hn))) 0 0 (fun _ => False) := by
  refine Met.ofW (cc := cX6_isHole) (maxL := 2) (ret := (some .boolean)) (by decide) rfl ?_
  intro p e s m args below meth c s₁ B hml hv
  obtain ⟨rfl, hP, hE⟩ := hv
  have hx := B.exec
  have hb := B.bytes
  have hr := B.returns
  have hts := atoms_spec (ws := wsX6_isHole) B.pre
  have hown : s.vm.findClass RX6 = some m.cls := findClass_of_methodNamed B.named
  have hlocks := B.notSynchronized
  have hP : va_P D vwCl [(mo, .inr (6, [.ref apg, .int (nI P), .int ea, .int (nI K), .int (nI Hn), .int ym, .int tm, .ref arw, .ref ans, .ref aro, .ref abo, .int (nI Sm), .ref asi, .int sd, .ref asv, .int kt, .int ky, .int (nI ks), .ref akr, .ref akn, .ref aks, .long ha]))] s.heap := hP
  have hl := lv_entry ([.ref mo, .int k]) (n := 2) (Nat.le_of_ble_eq_true rfl)
  rw [lg_entry_eq]
  generalize (lg_sl ([.ref mo, .int k]) ++ List.replicate (2 - (lg_sl ([.ref mo, .int k])).length) Slot.unset).toArray = ls at hl ⊢
  have hl : lv_has ls 2 [(0, .ref mo), (1, .int k)] := hl
  have hinX6 : ∀ w ∈ wsX60, w ∈ wsX6_isHole := fun w h => List.mem_cons_of_mem _ (List.mem_append_right _ h)
  have k_0 := hts (.fieldLink RX6 75 "VowDovesModel" "holes" "I") (by decide +kernel)
  refine lv_iload_n hx hb dX6_isHole_0 rfl (lv_at hl 1 rfl) ?_
  refine lv_i2l (v := (k : Int32).toInt64) hx hb dX6_isHole_1 rfl ?_
  refine lv_lconst (v := 0) hx hb dX6_isHole_2 (by decide) ?_
  refine lv_aload_n hx hb dX6_isHole_3 rfl (lv_at hl 0 rfl) ?_
  refine va_get (D := D) (ci := 6) (v := .int (nI Hn)) (C := RX6) (T := TX6) (N := 22) hx hb hts hinX6 hown hE.1 hP 0 rfl rfl 4 (by decide) k_0 (fun _ h9 => h9) rfl dX6_isHole_4 ?_
  refine lv_iconst (v := 1) hx hb dX6_isHole_7 (by decide) ?_
  refine lv_isub hx hb dX6_isHole_8 ?_
  refine lv_i2l (v := ((nI Hn) - 1 : Int32).toInt64) hx hb dX6_isHole_9 rfl ?_
  refine z_roSi (As := [.long ((k : Int32).toInt64), .long 0, .long (((nI Hn) - 1 : Int32).toInt64)]) (rest := []) ⟨hx, hb, hml, hown, hts⟩ (c_X6_in l D cI cZ cA ((k : Int32).toInt64) 0 (((nI Hn) - 1 : Int32).toInt64) ) (va_cwS 3 hts gX6_isHole_X6_in rfl rfl rfl (by decide +kernel) ⟨Nat.le_of_ble_eq_true rfl, Nat.le_of_ble_eq_true rfl⟩) hE hP [] rfl rfl hl.1 rfl (Nat.le_of_ble_eq_true rfl) dX6_isHole_10 ⟨Nat.zero_le _, Nat.zero_le _⟩ ?_
  exact W.zret (v := (zb (0 ≤ ((k : Int32).toInt64) ∧ ((k : Int32).toInt64) ≤ (((nI Hn) - 1 : Int32).toInt64)))) hx hb hr zb_nar (fun t ht hW => ⟨(zb (0 ≤ ((k : Int32).toInt64) ∧ ((k : Int32).toInt64) ≤ (((nI Hn) - 1 : Int32).toInt64))), rfl, (zb_c (zkeep (by omega))), ht⟩) (fun q h => by cases h) dX6_isHole_13

set_option maxHeartbeats 4000000 in
set_option maxRecDepth 100000 in
theorem c_X6_tenthsOf (l : Launch) (D : va_G) (cI cZ cA : ClassId) (mo : Nat) (apg : Nat) (P : Nat) (ea : Int32) (K : Nat) (Hn : Nat) (ym : Int32) (tm : Int32) (arw : Nat) (ans : Nat) (aro : Nat) (abo : Nat) (Sm : Nat) (asi : Nat) (sd : Int32) (asv : Nat) (kt : Int32) (ky : Int32) (ks : Nat) (akr : Nat) (akn : Nat) (aks : Nat) (ha : Int64) (rw : Nat → Int32) (k : Nat) (hd0 : Int32) (hk : k < 5) : Met l yX6_tenthsOf wsX6_tenthsOf (zr 2) (va_Pc [.ref mo, .int (nI k), .int hd0] (zPr D cI cZ cA [(mo, .inr (6, [.ref apg, .int (nI P), .int ea, .int (nI K), .int (nI Hn), .int ym, .int tm, .ref arw, .ref ans, .ref aro, .ref abo, .int (nI Sm), .ref asi, .int sd, .ref asv, .int kt, .int ky, .int (nI ks), .ref akr, .ref akn, .ref aks, .long ha])), (arw, .inl (cI, 15, .inl rw))])) (vp_Si (fun r => r = tb (rw (3 * k)) (rw (3 * k + 1)) hd0)) 0 0 (fun _ => False) := by
  refine Met.ofW (cc := cX6_tenthsOf) (maxL := 3) (ret := (some .int)) (by decide) rfl ?_
  intro p e s m args below meth c s₁ B hml hv
  obtain ⟨rfl, hP, hE⟩ := hv
  have hx := B.exec
  have hb := B.bytes
  have hr := B.returns
  have hts := atoms_spec (ws := wsX6_tenthsOf) B.pre
  have hown : s.vm.findClass RX6 = some m.cls := findClass_of_methodNamed B.named
  have hlocks := B.notSynchronized
  have hP : va_P D vwCl [(mo, .inr (6, [.ref apg, .int (nI P), .int ea, .int (nI K), .int (nI Hn), .int ym, .int tm, .ref arw, .ref ans, .ref aro, .ref abo, .int (nI Sm), .ref asi, .int sd, .ref asv, .int kt, .int ky, .int (nI ks), .ref akr, .ref akn, .ref aks, .long ha])), (arw, .inl (cI, 15, .inl rw))] s.heap := hP
  have hl := lv_entry ([.ref mo, .int (nI k), .int hd0]) (n := 3) (Nat.le_of_ble_eq_true rfl)
  rw [lg_entry_eq]
  generalize (lg_sl ([.ref mo, .int (nI k), .int hd0]) ++ List.replicate (3 - (lg_sl ([.ref mo, .int (nI k), .int hd0])).length) Slot.unset).toArray = ls at hl ⊢
  have hl : lv_has ls 3 [(0, .ref mo), (1, .int (nI k)), (2, .int hd0)] := hl
  have hinX6 : ∀ w ∈ wsX60, w ∈ wsX6_tenthsOf := fun w h => List.mem_cons_of_mem _ (List.mem_append_right _ h)
  have k_0 := hts (.fieldLink RX6 13 "VowDovesModel" "rows" "[I") (by decide +kernel)
  refine lv_aload_n hx hb dX6_tenthsOf_0 rfl (lv_at hl 0 rfl) ?_
  refine va_get (D := D) (ci := 6) (v := .ref arw) (C := RX6) (T := TX6) (N := 22) hx hb hts hinX6 hown hE.1 hP 0 rfl rfl 7 (by decide) k_0 (fun _ h9 => h9) rfl dX6_tenthsOf_1 ?_
  refine lv_iconst (v := 3) hx hb dX6_tenthsOf_4 (by decide) ?_
  refine lv_iload_n hx hb dX6_tenthsOf_5 rfl (lv_at hl 1 rfl) ?_
  refine lv_imul hx hb dX6_tenthsOf_6 ?_
  refine z_iald hx hb hE hP 1 rfl (j := 3 * k) (z_mul rfl rfl) (by omega) (by decide) dX6_tenthsOf_7 ?_
  refine lv_aload_n hx hb dX6_tenthsOf_8 rfl (lv_at hl 0 rfl) ?_
  refine va_get (D := D) (ci := 6) (v := .ref arw) (C := RX6) (T := TX6) (N := 22) hx hb hts hinX6 hown hE.1 hP 0 rfl rfl 7 (by decide) k_0 (fun _ h9 => h9) rfl dX6_tenthsOf_9 ?_
  refine lv_iconst (v := 3) hx hb dX6_tenthsOf_12 (by decide) ?_
  refine lv_iload_n hx hb dX6_tenthsOf_13 rfl (lv_at hl 1 rfl) ?_
  refine lv_imul hx hb dX6_tenthsOf_14 ?_
  refine lv_iconst (v := 1) hx hb dX6_tenthsOf_15 (by decide) ?_
  refine lv_iadd hx hb dX6_tenthsOf_16 ?_
  refine z_iald hx hb hE hP 1 rfl (j := (3 * k) + 1) (z_add (z_mul rfl rfl) rfl) (by omega) (by decide) dX6_tenthsOf_17 ?_
  refine lv_iload_n hx hb dX6_tenthsOf_18 rfl (lv_at hl 2 rfl) ?_
  refine z_roSi (As := [.int (rw (3 * k)), .int (rw ((3 * k) + 1)), .int hd0]) (rest := []) ⟨hx, hb, hml, hown, hts⟩ (c_X6_tenthsBy l D cI cZ cA (rw (3 * k)) (rw ((3 * k) + 1)) hd0 ) (va_cwS 3 hts gX6_tenthsOf_X6_tenthsBy rfl rfl rfl (by decide +kernel) ⟨Nat.le_of_ble_eq_true rfl, Nat.le_of_ble_eq_true rfl⟩) hE hP [] rfl rfl hl.1 rfl (Nat.le_of_ble_eq_true rfl) dX6_tenthsOf_19 ⟨Nat.zero_le _, Nat.zero_le _⟩ ?_
  exact W.iret (v := (tb (rw (3 * k)) (rw ((3 * k) + 1)) hd0)) hx hb hr (fun t ht hW => ⟨(tb (rw (3 * k)) (rw ((3 * k) + 1)) hd0), rfl, rfl, ht⟩) (fun q h => by cases h) dX6_tenthsOf_22

set_option maxHeartbeats 4000000 in
set_option maxRecDepth 100000 in
theorem c_X6_setOf (l : Launch) (D : va_G) (cI cZ cA : ClassId) (mo : Nat) (apg : Nat) (P : Nat) (ea : Int32) (K : Nat) (Hn : Nat) (ym : Int32) (tm : Int32) (arw : Nat) (ans : Nat) (aro : Nat) (abo : Nat) (Sm : Nat) (asi : Nat) (sd : Int32) (asv : Nat) (kt : Int32) (ky : Int32) (ks : Nat) (akr : Nat) (akn : Nat) (aks : Nat) (ha : Int64) (ns : Nat → Int32) (k : Int32) (hH : Hn ≤ 5) : Met l yX6_setOf wsX6_setOf (zr 1) (va_Pc [.ref mo, .int k] (zPr D cI cZ cA [(mo, .inr (6, [.ref apg, .int (nI P), .int ea, .int (nI K), .int (nI Hn), .int ym, .int tm, .ref arw, .ref ans, .ref aro, .ref abo, .int (nI Sm), .ref asi, .int sd, .ref asv, .int kt, .int ky, .int (nI ks), .ref akr, .ref akn, .ref aks, .long ha])), (ans, .inl (cI, 20, .inl ns))])) (vp_Si (fun r => r = sOfN ns k Hn)) 0 0 (fun _ => False) := by
  refine Met.ofW (cc := cX6_setOf) (maxL := 4) (ret := (some .int)) (by decide) rfl ?_
  intro p e s m args below meth c s₁ B hml hv
  obtain ⟨rfl, hP, hE⟩ := hv
  have hx := B.exec
  have hb := B.bytes
  have hr := B.returns
  have hts := atoms_spec (ws := wsX6_setOf) B.pre
  have hown : s.vm.findClass RX6 = some m.cls := findClass_of_methodNamed B.named
  have hlocks := B.notSynchronized
  have hP : va_P D vwCl [(mo, .inr (6, [.ref apg, .int (nI P), .int ea, .int (nI K), .int (nI Hn), .int ym, .int tm, .ref arw, .ref ans, .ref aro, .ref abo, .int (nI Sm), .ref asi, .int sd, .ref asv, .int kt, .int ky, .int (nI ks), .ref akr, .ref akn, .ref aks, .long ha])), (ans, .inl (cI, 20, .inl ns))] s.heap := hP
  have hl := lv_entry ([.ref mo, .int k]) (n := 4) (Nat.le_of_ble_eq_true rfl)
  rw [lg_entry_eq]
  generalize (lg_sl ([.ref mo, .int k]) ++ List.replicate (4 - (lg_sl ([.ref mo, .int k])).length) Slot.unset).toArray = ls at hl ⊢
  have hl : lv_has ls 4 [(0, .ref mo), (1, .int k)] := hl
  have hinX6 : ∀ w ∈ wsX60, w ∈ wsX6_setOf := fun w h => List.mem_cons_of_mem _ (List.mem_append_right _ h)
  have k_0 := hts (.fieldLink RX6 75 "VowDovesModel" "holes" "I") (by decide +kernel)
  have k_1 := hts (.fieldLink RX6 16 "VowDovesModel" "nests" "[I") (by decide +kernel)
  refine lv_iconst (v := 0) hx hb dX6_setOf_0 (by decide) ?_
  refine lv_istore_n (lv' := [(2, .int 0), (0, .ref mo), (1, .int k)]) hx hb dX6_setOf_1 rfl hl (by decide) rfl (fun ls hl => ?_)
  refine lv_iconst (v := 0) hx hb dX6_setOf_2 (by decide) ?_
  refine lv_istore_n (lv' := [(3, .int 0), (2, .int 0), (0, .ref mo), (1, .int k)]) hx hb dX6_setOf_3 rfl hl (by decide) rfl (fun ls hl => ?_)
  have hc4_1 : ∀ (n : Nat) (i : Nat), (i ≤ Hn) → (Hn + 1 ≤ i + n) → ∀ (w2 : Int32), w2 = sOfN ns k i → ∀ (w3 : Int32), w3 = nI i → ∀ (ls : Array Slot), lv_has ls 4 [(3, .int w3), (2, .int w2), (0, .ref mo), (1, .int k)] → W p l e (headSpec wsX6_setOf (zr 1)).room s m ([.ref mo, .int k] : List Value).toArray below meth c s.heap [] 0 0 (MQ below (vp_Si (fun r => r = sOfN ns k Hn)) ([.ref mo, .int k] : List Value).toArray s 0 0 (fun _ => False)) (F0 m 4 ls []) := by
    intro n
    induction n with
    | zero => intro i hi hfu; exact absurd hfu (by omega)
    | succ n ihhc4_1 =>
      intro i hi hfu w2 ew2 w3 ew3 ls hl
      subst ew2
      subst ew3
      refine lv_iload_n hx hb dX6_setOf_4 rfl (lv_at hl 0 rfl) ?_
      refine lv_aload_n hx hb dX6_setOf_5 rfl (lv_at hl 2 rfl) ?_
      refine va_get (D := D) (ci := 6) (v := .int (nI Hn)) (C := RX6) (T := TX6) (N := 22) hx hb hts hinX6 hown hE.1 hP 0 rfl rfl 4 (by decide) k_0 (fun _ h9 => h9) rfl dX6_setOf_6 ?_
      refine lv_icmp_ge (tgt := 42) hx hb dX6_setOf_9 (by decide) (fun c_9 => ?_) (fun c_9 => ?_)
      · have n_9 := zn_le (a := Hn) (b := i) rfl rfl c_9 (by omega) (by omega)
        obtain rfl : Hn = i := by omega
        refine lv_iload_n hx hb dX6_setOf_42 rfl (lv_at hl 1 rfl) ?_
        exact W.iret (v := sOfN ns k Hn) hx hb hr (fun t ht hW => ⟨(sOfN ns k Hn), rfl, rfl, ht⟩) (fun q h => by cases h) dX6_setOf_43
      · have n_9 := zn_nle (a := Hn) (b := i) rfl rfl c_9 (by omega) (by omega)
        refine lv_iload_n hx hb dX6_setOf_12 rfl (lv_at hl 1 rfl) ?_
        refine lv_aload_n hx hb dX6_setOf_13 rfl (lv_at hl 2 rfl) ?_
        refine va_get (D := D) (ci := 6) (v := .ref ans) (C := RX6) (T := TX6) (N := 22) hx hb hts hinX6 hown hE.1 hP 0 rfl rfl 8 (by decide) k_1 (fun _ h9 => h9) rfl dX6_setOf_14 ?_
        refine lv_iconst (v := 4) hx hb dX6_setOf_17 (by decide) ?_
        refine lv_iload_n hx hb dX6_setOf_18 rfl (lv_at hl 0 rfl) ?_
        refine lv_imul hx hb dX6_setOf_19 ?_
        refine lv_iconst (v := 1) hx hb dX6_setOf_20 (by decide) ?_
        refine lv_iadd hx hb dX6_setOf_21 ?_
        refine z_iald hx hb hE hP 1 rfl (j := (4 * i) + 1) (z_add (z_mul rfl rfl) rfl) (by omega) (by decide) dX6_setOf_22 ?_
        refine lv_iload_n hx hb dX6_setOf_23 rfl (lv_at hl 3 rfl) ?_
        refine lv_icmp_ne (tgt := 33) hx hb dX6_setOf_24 (by decide) (fun c_24 => ?_) (fun c_24 => ?_)
        · refine lv_iconst (v := 0) hx hb dX6_setOf_33 (by decide) ?_
          refine lv_ior hx hb dX6_setOf_34 ?_
          refine lv_istore_n (lv' := [(2, .int ((sOfN ns k i) ||| 0)), (3, .int (nI i)), (0, .ref mo), (1, .int k)]) hx hb dX6_setOf_35 rfl hl (by decide) rfl (fun ls hl => ?_)
          refine lv_iinc (v := nI (i + 1)) (lv' := [(3, .int (nI (i + 1))), (2, .int ((sOfN ns k i) ||| 0)), (0, .ref mo), (1, .int k)]) hx hb dX6_setOf_36 hl (k := 1) rfl (nI_add i 1) (by decide) rfl (fun ls hl => ?_)
          refine lv_goto (tgt := 4) hx hb dX6_setOf_39 (by decide) ?_
          exact ihhc4_1 (i + 1) (by omega) (by omega) ((sOfN ns k i) ||| 0) (by simp [sOfN, c_24]) (nI (i + 1)) rfl ls (lv_sub hl [0, 1, 2, 3] rfl)
        · refine lv_iconst (v := 1) hx hb dX6_setOf_27 (by decide) ?_
          refine lv_iload_n hx hb dX6_setOf_28 rfl (lv_at hl 0 rfl) ?_
          refine lv_ishl hx hb dX6_setOf_29 ?_
          refine lv_goto (tgt := 34) hx hb dX6_setOf_30 (by decide) ?_
          refine lv_ior hx hb dX6_setOf_34 ?_
          refine lv_istore_n (lv' := [(2, .int ((sOfN ns k i) ||| (1 <<< ((nI i) &&& 31)))), (3, .int (nI i)), (0, .ref mo), (1, .int k)]) hx hb dX6_setOf_35 rfl hl (by decide) rfl (fun ls hl => ?_)
          refine lv_iinc (v := nI (i + 1)) (lv' := [(3, .int (nI (i + 1))), (2, .int ((sOfN ns k i) ||| (1 <<< ((nI i) &&& 31)))), (0, .ref mo), (1, .int k)]) hx hb dX6_setOf_36 hl (k := 1) rfl (nI_add i 1) (by decide) rfl (fun ls hl => ?_)
          refine lv_goto (tgt := 4) hx hb dX6_setOf_39 (by decide) ?_
          exact ihhc4_1 (i + 1) (by omega) (by omega) ((sOfN ns k i) ||| (1 <<< ((nI i) &&& 31))) (by simp [sOfN, c_24]) (nI (i + 1)) rfl ls (lv_sub hl [0, 1, 2, 3] rfl)
  exact hc4_1 (Hn + 1) 0 (by omega) (by omega) 0 rfl 0 rfl ls (lv_sub hl [0, 1, 2, 3] rfl)

set_option maxHeartbeats 4000000 in
set_option maxRecDepth 100000 in
theorem c_X6_ones (l : Launch) (D : va_G) (cI cZ cA : ClassId) (x0 : Int32)  : Met l yX6_ones wsX6_ones (zr 1) (va_Pc [.int x0] (zPr D cI cZ cA [])) (vp_Si (fun r => r = oneN x0 5)) 0 0 (fun _ => False) := by
  refine Met.ofW (cc := cX6_ones) (maxL := 3) (ret := (some .int)) (by decide) rfl ?_
  intro p e s m args below meth c s₁ B hml hv
  obtain ⟨rfl, hP, hE⟩ := hv
  have hx := B.exec
  have hb := B.bytes
  have hr := B.returns
  have hts := atoms_spec (ws := wsX6_ones) B.pre
  have hown : s.vm.findClass RX6 = some m.cls := findClass_of_methodNamed B.named
  have hlocks := B.notSynchronized
  have hP : va_P D vwCl [] s.heap := hP
  have hl := lv_entry ([.int x0]) (n := 3) (Nat.le_of_ble_eq_true rfl)
  rw [lg_entry_eq]
  generalize (lg_sl ([.int x0]) ++ List.replicate (3 - (lg_sl ([.int x0])).length) Slot.unset).toArray = ls at hl ⊢
  have hl : lv_has ls 3 [(0, .int x0)] := hl
  refine lv_iconst (v := 0) hx hb dX6_ones_0 (by decide) ?_
  refine lv_istore_n (lv' := [(1, .int 0), (0, .int x0)]) hx hb dX6_ones_1 rfl hl (by decide) rfl (fun ls hl => ?_)
  refine lv_iconst (v := 0) hx hb dX6_ones_2 (by decide) ?_
  refine lv_istore_n (lv' := [(2, .int 0), (1, .int 0), (0, .int x0)]) hx hb dX6_ones_3 rfl hl (by decide) rfl (fun ls hl => ?_)
  have hc4_1 : ∀ (n : Nat) (i : Nat), (i ≤ 5) → (5 + 1 ≤ i + n) → ∀ (w2 : Int32), w2 = oneN x0 i → ∀ (w3 : Int32), w3 = nI i → ∀ (ls : Array Slot), lv_has ls 3 [(2, .int w3), (1, .int w2), (0, .int x0)] → W p l e (headSpec wsX6_ones (zr 1)).room s m ([.int x0] : List Value).toArray below meth c s.heap [] 0 0 (MQ below (vp_Si (fun r => r = oneN x0 5)) ([.int x0] : List Value).toArray s 0 0 (fun _ => False)) (F0 m 4 ls []) := by
    intro n
    induction n with
    | zero => intro i hi hfu; exact absurd hfu (by omega)
    | succ n ihhc4_1 =>
      intro i hi hfu w2 ew2 w3 ew3 ls hl
      subst ew2
      subst ew3
      refine lv_iload_n hx hb dX6_ones_4 rfl (lv_at hl 0 rfl) ?_
      refine lv_iconst (v := 5) hx hb dX6_ones_5 (by decide) ?_
      refine lv_icmp_ge (tgt := 23) hx hb dX6_ones_6 (by decide) (fun c_6 => ?_) (fun c_6 => ?_)
      · have n_6 := zn_le (a := 5) (b := i) rfl rfl c_6 (by omega) (by omega)
        obtain rfl : 5 = i := by omega
        refine lv_iload_n hx hb dX6_ones_23 rfl (lv_at hl 1 rfl) ?_
        exact W.iret (v := oneN x0 5) hx hb hr (fun t ht hW => ⟨(oneN x0 5), rfl, rfl, ht⟩) (fun q h => by cases h) dX6_ones_24
      · have n_6 := zn_nle (a := 5) (b := i) rfl rfl c_6 (by omega) (by omega)
        refine lv_iload_n hx hb dX6_ones_9 rfl (lv_at hl 1 rfl) ?_
        refine lv_iload_n hx hb dX6_ones_10 rfl (lv_at hl 2 rfl) ?_
        refine lv_iload_n hx hb dX6_ones_11 rfl (lv_at hl 0 rfl) ?_
        refine lv_ishr hx hb dX6_ones_12 ?_
        refine lv_iconst (v := 1) hx hb dX6_ones_13 (by decide) ?_
        refine lv_iand hx hb dX6_ones_14 ?_
        refine lv_iadd hx hb dX6_ones_15 ?_
        refine lv_istore_n (lv' := [(1, .int ((oneN x0 i) + ((x0 >>> ((nI i) &&& 31)) &&& 1))), (2, .int (nI i)), (0, .int x0)]) hx hb dX6_ones_16 rfl hl (by decide) rfl (fun ls hl => ?_)
        refine lv_iinc (v := nI (i + 1)) (lv' := [(2, .int (nI (i + 1))), (1, .int ((oneN x0 i) + ((x0 >>> ((nI i) &&& 31)) &&& 1))), (0, .int x0)]) hx hb dX6_ones_17 hl (k := 1) rfl (nI_add i 1) (by decide) rfl (fun ls hl => ?_)
        refine lv_goto (tgt := 4) hx hb dX6_ones_20 (by decide) ?_
        exact ihhc4_1 (i + 1) (by omega) (by omega) ((oneN x0 i) + ((x0 >>> ((nI i) &&& 31)) &&& 1)) rfl (nI (i + 1)) rfl ls (lv_sub hl [0, 1, 2] rfl)
  exact hc4_1 (5 + 1) 0 (by omega) (by omega) 0 rfl 0 rfl ls (lv_sub hl [0, 1, 2] rfl)

set_option maxHeartbeats 4000000 in
set_option maxRecDepth 100000 in
theorem c_X6_eggsIn (l : Launch) (D : va_G) (cI cZ cA : ClassId) (mo : Nat) (apg : Nat) (P : Nat) (ea : Int32) (K : Nat) (Hn : Nat) (ym : Int32) (tm : Int32) (arw : Nat) (ans : Nat) (aro : Nat) (abo : Nat) (Sm : Nat) (asi : Nat) (sd : Int32) (asv : Nat) (kt : Int32) (ky : Int32) (ks : Nat) (akr : Nat) (akn : Nat) (aks : Nat) (ha : Int64) (ns : Nat → Int32) (x0 : Int32) (hH : Hn ≤ 5) : Met l yX6_eggsIn wsX6_eggsIn (zr 1) (va_Pc [.ref mo, .int x0] (zPr D cI cZ cA [(mo, .inr (6, [.ref apg, .int (nI P), .int ea, .int (nI K), .int (nI Hn), .int ym, .int tm, .ref arw, .ref ans, .ref aro, .ref abo, .int (nI Sm), .ref asi, .int sd, .ref asv, .int kt, .int ky, .int (nI ks), .ref akr, .ref akn, .ref aks, .long ha])), (ans, .inl (cI, 20, .inl ns))])) (vp_Si (fun r => r = eInN ns x0 Hn)) 0 0 (fun _ => False) := by
  refine Met.ofW (cc := cX6_eggsIn) (maxL := 4) (ret := (some .int)) (by decide) rfl ?_
  intro p e s m args below meth c s₁ B hml hv
  obtain ⟨rfl, hP, hE⟩ := hv
  have hx := B.exec
  have hb := B.bytes
  have hr := B.returns
  have hts := atoms_spec (ws := wsX6_eggsIn) B.pre
  have hown : s.vm.findClass RX6 = some m.cls := findClass_of_methodNamed B.named
  have hlocks := B.notSynchronized
  have hP : va_P D vwCl [(mo, .inr (6, [.ref apg, .int (nI P), .int ea, .int (nI K), .int (nI Hn), .int ym, .int tm, .ref arw, .ref ans, .ref aro, .ref abo, .int (nI Sm), .ref asi, .int sd, .ref asv, .int kt, .int ky, .int (nI ks), .ref akr, .ref akn, .ref aks, .long ha])), (ans, .inl (cI, 20, .inl ns))] s.heap := hP
  have hl := lv_entry ([.ref mo, .int x0]) (n := 4) (Nat.le_of_ble_eq_true rfl)
  rw [lg_entry_eq]
  generalize (lg_sl ([.ref mo, .int x0]) ++ List.replicate (4 - (lg_sl ([.ref mo, .int x0])).length) Slot.unset).toArray = ls at hl ⊢
  have hl : lv_has ls 4 [(0, .ref mo), (1, .int x0)] := hl
  have hinX6 : ∀ w ∈ wsX60, w ∈ wsX6_eggsIn := fun w h => List.mem_cons_of_mem _ (List.mem_append_right _ h)
  have k_0 := hts (.fieldLink RX6 75 "VowDovesModel" "holes" "I") (by decide +kernel)
  have k_1 := hts (.fieldLink RX6 16 "VowDovesModel" "nests" "[I") (by decide +kernel)
  refine lv_iconst (v := 0) hx hb dX6_eggsIn_0 (by decide) ?_
  refine lv_istore_n (lv' := [(2, .int 0), (0, .ref mo), (1, .int x0)]) hx hb dX6_eggsIn_1 rfl hl (by decide) rfl (fun ls hl => ?_)
  refine lv_iconst (v := 0) hx hb dX6_eggsIn_2 (by decide) ?_
  refine lv_istore_n (lv' := [(3, .int 0), (2, .int 0), (0, .ref mo), (1, .int x0)]) hx hb dX6_eggsIn_3 rfl hl (by decide) rfl (fun ls hl => ?_)
  have hc4_1 : ∀ (n : Nat) (i : Nat), (i ≤ Hn) → (Hn + 1 ≤ i + n) → ∀ (w2 : Int32), w2 = eInN ns x0 i → ∀ (w3 : Int32), w3 = nI i → ∀ (ls : Array Slot), lv_has ls 4 [(3, .int w3), (2, .int w2), (0, .ref mo), (1, .int x0)] → W p l e (headSpec wsX6_eggsIn (zr 1)).room s m ([.ref mo, .int x0] : List Value).toArray below meth c s.heap [] 0 0 (MQ below (vp_Si (fun r => r = eInN ns x0 Hn)) ([.ref mo, .int x0] : List Value).toArray s 0 0 (fun _ => False)) (F0 m 4 ls []) := by
    intro n
    induction n with
    | zero => intro i hi hfu; exact absurd hfu (by omega)
    | succ n ihhc4_1 =>
      intro i hi hfu w2 ew2 w3 ew3 ls hl
      subst ew2
      subst ew3
      refine lv_iload_n hx hb dX6_eggsIn_4 rfl (lv_at hl 0 rfl) ?_
      refine lv_aload_n hx hb dX6_eggsIn_5 rfl (lv_at hl 2 rfl) ?_
      refine va_get (D := D) (ci := 6) (v := .int (nI Hn)) (C := RX6) (T := TX6) (N := 22) hx hb hts hinX6 hown hE.1 hP 0 rfl rfl 4 (by decide) k_0 (fun _ h9 => h9) rfl dX6_eggsIn_6 ?_
      refine lv_icmp_ge (tgt := 37) hx hb dX6_eggsIn_9 (by decide) (fun c_9 => ?_) (fun c_9 => ?_)
      · have n_9 := zn_le (a := Hn) (b := i) rfl rfl c_9 (by omega) (by omega)
        obtain rfl : Hn = i := by omega
        refine lv_iload_n hx hb dX6_eggsIn_37 rfl (lv_at hl 1 rfl) ?_
        exact W.iret (v := eInN ns x0 Hn) hx hb hr (fun t ht hW => ⟨(eInN ns x0 Hn), rfl, rfl, ht⟩) (fun q h => by cases h) dX6_eggsIn_38
      · have n_9 := zn_nle (a := Hn) (b := i) rfl rfl c_9 (by omega) (by omega)
        refine lv_iload_n hx hb dX6_eggsIn_12 rfl (lv_at hl 1 rfl) ?_
        refine lv_iload_n hx hb dX6_eggsIn_13 rfl (lv_at hl 3 rfl) ?_
        refine lv_iload_n hx hb dX6_eggsIn_14 rfl (lv_at hl 0 rfl) ?_
        refine lv_ishr hx hb dX6_eggsIn_15 ?_
        refine lv_iconst (v := 1) hx hb dX6_eggsIn_16 (by decide) ?_
        refine lv_iand hx hb dX6_eggsIn_17 ?_
        refine lv_aload_n hx hb dX6_eggsIn_18 rfl (lv_at hl 2 rfl) ?_
        refine va_get (D := D) (ci := 6) (v := .ref ans) (C := RX6) (T := TX6) (N := 22) hx hb hts hinX6 hown hE.1 hP 0 rfl rfl 8 (by decide) k_1 (fun _ h9 => h9) rfl dX6_eggsIn_19 ?_
        refine lv_iconst (v := 4) hx hb dX6_eggsIn_22 (by decide) ?_
        refine lv_iload_n hx hb dX6_eggsIn_23 rfl (lv_at hl 0 rfl) ?_
        refine lv_imul hx hb dX6_eggsIn_24 ?_
        refine lv_iconst (v := 3) hx hb dX6_eggsIn_25 (by decide) ?_
        refine lv_iadd hx hb dX6_eggsIn_26 ?_
        refine z_iald hx hb hE hP 1 rfl (j := (4 * i) + 3) (z_add (z_mul rfl rfl) rfl) (by omega) (by decide) dX6_eggsIn_27 ?_
        refine lv_imul hx hb dX6_eggsIn_28 ?_
        refine lv_iadd hx hb dX6_eggsIn_29 ?_
        refine lv_istore_n (lv' := [(2, .int ((eInN ns x0 i) + (((x0 >>> ((nI i) &&& 31)) &&& 1) * (ns ((4 * i) + 3))))), (3, .int (nI i)), (0, .ref mo), (1, .int x0)]) hx hb dX6_eggsIn_30 rfl hl (by decide) rfl (fun ls hl => ?_)
        refine lv_iinc (v := nI (i + 1)) (lv' := [(3, .int (nI (i + 1))), (2, .int ((eInN ns x0 i) + (((x0 >>> ((nI i) &&& 31)) &&& 1) * (ns ((4 * i) + 3))))), (0, .ref mo), (1, .int x0)]) hx hb dX6_eggsIn_31 hl (k := 1) rfl (nI_add i 1) (by decide) rfl (fun ls hl => ?_)
        refine lv_goto (tgt := 4) hx hb dX6_eggsIn_34 (by decide) ?_
        exact ihhc4_1 (i + 1) (by omega) (by omega) ((eInN ns x0 i) + (((x0 >>> ((nI i) &&& 31)) &&& 1) * (ns ((4 * i) + 3)))) rfl (nI (i + 1)) rfl ls (lv_sub hl [0, 1, 2, 3] rfl)
  exact hc4_1 (Hn + 1) 0 (by omega) (by omega) 0 rfl 0 rfl ls (lv_sub hl [0, 1, 2, 3] rfl)

set_option maxHeartbeats 4000000 in
set_option maxRecDepth 100000 in
theorem c_X6_birds (l : Launch) (D : va_G) (cI cZ cA : ClassId) (mo : Nat) (apg : Nat) (P : Nat) (ea : Int32) (K : Nat) (Hn : Nat) (ym : Int32) (tm : Int32) (arw : Nat) (ans : Nat) (aro : Nat) (abo : Nat) (Sm : Nat) (asi : Nat) (sd : Int32) (asv : Nat) (kt : Int32) (ky : Int32) (ks : Nat) (akr : Nat) (akn : Nat) (aks : Nat) (ha : Int64) (ns : Nat → Int32) (b0 : Int32) (hH : Hn ≤ 5) : Met l yX6_birds wsX6_birds (zr 1) (va_Pc [.ref mo, .int b0] (zPr D cI cZ cA [(mo, .inr (6, [.ref apg, .int (nI P), .int ea, .int (nI K), .int (nI Hn), .int ym, .int tm, .ref arw, .ref ans, .ref aro, .ref abo, .int (nI Sm), .ref asi, .int sd, .ref asv, .int kt, .int ky, .int (nI ks), .ref akr, .ref akn, .ref aks, .long ha])), (ans, .inl (cI, 20, .inl ns))])) (vp_Si (fun r => r = brdN ns b0 Hn)) 0 0 (fun _ => False) := by
  refine Met.ofW (cc := cX6_birds) (maxL := 4) (ret := (some .int)) (by decide) rfl ?_
  intro p e s m args below meth c s₁ B hml hv
  obtain ⟨rfl, hP, hE⟩ := hv
  have hx := B.exec
  have hb := B.bytes
  have hr := B.returns
  have hts := atoms_spec (ws := wsX6_birds) B.pre
  have hown : s.vm.findClass RX6 = some m.cls := findClass_of_methodNamed B.named
  have hlocks := B.notSynchronized
  have hP : va_P D vwCl [(mo, .inr (6, [.ref apg, .int (nI P), .int ea, .int (nI K), .int (nI Hn), .int ym, .int tm, .ref arw, .ref ans, .ref aro, .ref abo, .int (nI Sm), .ref asi, .int sd, .ref asv, .int kt, .int ky, .int (nI ks), .ref akr, .ref akn, .ref aks, .long ha])), (ans, .inl (cI, 20, .inl ns))] s.heap := hP
  have hl := lv_entry ([.ref mo, .int b0]) (n := 4) (Nat.le_of_ble_eq_true rfl)
  rw [lg_entry_eq]
  generalize (lg_sl ([.ref mo, .int b0]) ++ List.replicate (4 - (lg_sl ([.ref mo, .int b0])).length) Slot.unset).toArray = ls at hl ⊢
  have hl : lv_has ls 4 [(0, .ref mo), (1, .int b0)] := hl
  have hinX6 : ∀ w ∈ wsX60, w ∈ wsX6_birds := fun w h => List.mem_cons_of_mem _ (List.mem_append_right _ h)
  have k_0 := hts (.fieldLink RX6 75 "VowDovesModel" "holes" "I") (by decide +kernel)
  have k_1 := hts (.fieldLink RX6 16 "VowDovesModel" "nests" "[I") (by decide +kernel)
  refine lv_iconst (v := 0) hx hb dX6_birds_0 (by decide) ?_
  refine lv_istore_n (lv' := [(2, .int 0), (0, .ref mo), (1, .int b0)]) hx hb dX6_birds_1 rfl hl (by decide) rfl (fun ls hl => ?_)
  refine lv_iconst (v := 0) hx hb dX6_birds_2 (by decide) ?_
  refine lv_istore_n (lv' := [(3, .int 0), (2, .int 0), (0, .ref mo), (1, .int b0)]) hx hb dX6_birds_3 rfl hl (by decide) rfl (fun ls hl => ?_)
  have hc4_1 : ∀ (n : Nat) (i : Nat), (i ≤ Hn) → (Hn + 1 ≤ i + n) → ∀ (w2 : Int32), w2 = brdN ns b0 i → ∀ (w3 : Int32), w3 = nI i → ∀ (ls : Array Slot), lv_has ls 4 [(3, .int w3), (2, .int w2), (0, .ref mo), (1, .int b0)] → W p l e (headSpec wsX6_birds (zr 1)).room s m ([.ref mo, .int b0] : List Value).toArray below meth c s.heap [] 0 0 (MQ below (vp_Si (fun r => r = brdN ns b0 Hn)) ([.ref mo, .int b0] : List Value).toArray s 0 0 (fun _ => False)) (F0 m 4 ls []) := by
    intro n
    induction n with
    | zero => intro i hi hfu; exact absurd hfu (by omega)
    | succ n ihhc4_1 =>
      intro i hi hfu w2 ew2 w3 ew3 ls hl
      subst ew2
      subst ew3
      refine lv_iload_n hx hb dX6_birds_4 rfl (lv_at hl 0 rfl) ?_
      refine lv_aload_n hx hb dX6_birds_5 rfl (lv_at hl 2 rfl) ?_
      refine va_get (D := D) (ci := 6) (v := .int (nI Hn)) (C := RX6) (T := TX6) (N := 22) hx hb hts hinX6 hown hE.1 hP 0 rfl rfl 4 (by decide) k_0 (fun _ h9 => h9) rfl dX6_birds_6 ?_
      refine lv_icmp_ge (tgt := 40) hx hb dX6_birds_9 (by decide) (fun c_9 => ?_) (fun c_9 => ?_)
      · have n_9 := zn_le (a := Hn) (b := i) rfl rfl c_9 (by omega) (by omega)
        obtain rfl : Hn = i := by omega
        refine lv_iload_n hx hb dX6_birds_40 rfl (lv_at hl 1 rfl) ?_
        exact W.iret (v := brdN ns b0 Hn) hx hb hr (fun t ht hW => ⟨(brdN ns b0 Hn), rfl, rfl, ht⟩) (fun q h => by cases h) dX6_birds_41
      · have n_9 := zn_nle (a := Hn) (b := i) rfl rfl c_9 (by omega) (by omega)
        refine lv_iload_n hx hb dX6_birds_12 rfl (lv_at hl 1 rfl) ?_
        refine lv_aload_n hx hb dX6_birds_13 rfl (lv_at hl 2 rfl) ?_
        refine va_get (D := D) (ci := 6) (v := .ref ans) (C := RX6) (T := TX6) (N := 22) hx hb hts hinX6 hown hE.1 hP 0 rfl rfl 8 (by decide) k_1 (fun _ h9 => h9) rfl dX6_birds_14 ?_
        refine lv_iconst (v := 4) hx hb dX6_birds_17 (by decide) ?_
        refine lv_iload_n hx hb dX6_birds_18 rfl (lv_at hl 0 rfl) ?_
        refine lv_imul hx hb dX6_birds_19 ?_
        refine lv_iconst (v := 2) hx hb dX6_birds_20 (by decide) ?_
        refine lv_iadd hx hb dX6_birds_21 ?_
        refine z_iald hx hb hE hP 1 rfl (j := (4 * i) + 2) (z_add (z_mul rfl rfl) rfl) (by omega) (by decide) dX6_birds_22 ?_
        refine lv_iload_n hx hb dX6_birds_23 rfl (lv_at hl 3 rfl) ?_
        refine lv_icmp_ne (tgt := 31) hx hb dX6_birds_24 (by decide) (fun c_24 => ?_) (fun c_24 => ?_)
        · refine lv_iconst (v := 0) hx hb dX6_birds_31 (by decide) ?_
          refine lv_iadd hx hb dX6_birds_32 ?_
          refine lv_istore_n (lv' := [(2, .int ((brdN ns b0 i) + 0)), (3, .int (nI i)), (0, .ref mo), (1, .int b0)]) hx hb dX6_birds_33 rfl hl (by decide) rfl (fun ls hl => ?_)
          refine lv_iinc (v := nI (i + 1)) (lv' := [(3, .int (nI (i + 1))), (2, .int ((brdN ns b0 i) + 0)), (0, .ref mo), (1, .int b0)]) hx hb dX6_birds_34 hl (k := 1) rfl (nI_add i 1) (by decide) rfl (fun ls hl => ?_)
          refine lv_goto (tgt := 4) hx hb dX6_birds_37 (by decide) ?_
          exact ihhc4_1 (i + 1) (by omega) (by omega) ((brdN ns b0 i) + 0) (by simp [brdN, c_24]) (nI (i + 1)) rfl ls (lv_sub hl [0, 1, 2, 3] rfl)
        · refine lv_iconst (v := 1) hx hb dX6_birds_27 (by decide) ?_
          refine lv_goto (tgt := 32) hx hb dX6_birds_28 (by decide) ?_
          refine lv_iadd hx hb dX6_birds_32 ?_
          refine lv_istore_n (lv' := [(2, .int ((brdN ns b0 i) + 1)), (3, .int (nI i)), (0, .ref mo), (1, .int b0)]) hx hb dX6_birds_33 rfl hl (by decide) rfl (fun ls hl => ?_)
          refine lv_iinc (v := nI (i + 1)) (lv' := [(3, .int (nI (i + 1))), (2, .int ((brdN ns b0 i) + 1)), (0, .ref mo), (1, .int b0)]) hx hb dX6_birds_34 hl (k := 1) rfl (nI_add i 1) (by decide) rfl (fun ls hl => ?_)
          refine lv_goto (tgt := 4) hx hb dX6_birds_37 (by decide) ?_
          exact ihhc4_1 (i + 1) (by omega) (by omega) ((brdN ns b0 i) + 1) (by simp [brdN, c_24]) (nI (i + 1)) rfl ls (lv_sub hl [0, 1, 2, 3] rfl)
  exact hc4_1 (Hn + 1) 0 (by omega) (by omega) 0 rfl 0 rfl ls (lv_sub hl [0, 1, 2, 3] rfl)

set_option maxHeartbeats 4000000 in
set_option maxRecDepth 100000 in
theorem c_X6_brokenAll (l : Launch) (D : va_G) (cI cZ cA : ClassId) (mo : Nat) (apg : Nat) (P : Nat) (ea : Int32) (K : Nat) (Hn : Nat) (ym : Int32) (tm : Int32) (arw : Nat) (ans : Nat) (aro : Nat) (abo : Nat) (Sm : Nat) (asi : Nat) (sd : Int32) (asv : Nat) (kt : Int32) (ky : Int32) (ks : Nat) (akr : Nat) (akn : Nat) (aks : Nat) (ha : Int64) (rw : Nat → Int32) (hK : K ≤ 5) : Met l yX6_brokenAll wsX6_brokenAll (zr 1) (va_Pc [.ref mo] (zPr D cI cZ cA [(mo, .inr (6, [.ref apg, .int (nI P), .int ea, .int (nI K), .int (nI Hn), .int ym, .int tm, .ref arw, .ref ans, .ref aro, .ref abo, .int (nI Sm), .ref asi, .int sd, .ref asv, .int kt, .int ky, .int (nI ks), .ref akr, .ref akn, .ref aks, .long ha])), (arw, .inl (cI, 15, .inl rw))])) (vp_Si (fun r => r = brkN rw K)) 0 0 (fun _ => False) := by
  refine Met.ofW (cc := cX6_brokenAll) (maxL := 3) (ret := (some .int)) (by decide) rfl ?_
  intro p e s m args below meth c s₁ B hml hv
  obtain ⟨rfl, hP, hE⟩ := hv
  have hx := B.exec
  have hb := B.bytes
  have hr := B.returns
  have hts := atoms_spec (ws := wsX6_brokenAll) B.pre
  have hown : s.vm.findClass RX6 = some m.cls := findClass_of_methodNamed B.named
  have hlocks := B.notSynchronized
  have hP : va_P D vwCl [(mo, .inr (6, [.ref apg, .int (nI P), .int ea, .int (nI K), .int (nI Hn), .int ym, .int tm, .ref arw, .ref ans, .ref aro, .ref abo, .int (nI Sm), .ref asi, .int sd, .ref asv, .int kt, .int ky, .int (nI ks), .ref akr, .ref akn, .ref aks, .long ha])), (arw, .inl (cI, 15, .inl rw))] s.heap := hP
  have hl := lv_entry ([.ref mo]) (n := 3) (Nat.le_of_ble_eq_true rfl)
  rw [lg_entry_eq]
  generalize (lg_sl ([.ref mo]) ++ List.replicate (3 - (lg_sl ([.ref mo])).length) Slot.unset).toArray = ls at hl ⊢
  have hl : lv_has ls 3 [(0, .ref mo)] := hl
  have hinX6 : ∀ w ∈ wsX60, w ∈ wsX6_brokenAll := fun w h => List.mem_cons_of_mem _ (List.mem_append_right _ h)
  have k_0 := hts (.fieldLink RX6 72 "VowDovesModel" "keepers" "I") (by decide +kernel)
  have k_1 := hts (.fieldLink RX6 13 "VowDovesModel" "rows" "[I") (by decide +kernel)
  refine lv_iconst (v := 0) hx hb dX6_brokenAll_0 (by decide) ?_
  refine lv_istore_n (lv' := [(1, .int 0), (0, .ref mo)]) hx hb dX6_brokenAll_1 rfl hl (by decide) rfl (fun ls hl => ?_)
  refine lv_iconst (v := 0) hx hb dX6_brokenAll_2 (by decide) ?_
  refine lv_istore_n (lv' := [(2, .int 0), (1, .int 0), (0, .ref mo)]) hx hb dX6_brokenAll_3 rfl hl (by decide) rfl (fun ls hl => ?_)
  have hc4_1 : ∀ (n : Nat) (i : Nat), (i ≤ K) → (K + 1 ≤ i + n) → ∀ (w2 : Int32), w2 = brkN rw i → ∀ (w3 : Int32), w3 = nI i → ∀ (ls : Array Slot), lv_has ls 3 [(2, .int w3), (1, .int w2), (0, .ref mo)] → W p l e (headSpec wsX6_brokenAll (zr 1)).room s m ([.ref mo] : List Value).toArray below meth c s.heap [] 0 0 (MQ below (vp_Si (fun r => r = brkN rw K)) ([.ref mo] : List Value).toArray s 0 0 (fun _ => False)) (F0 m 4 ls []) := by
    intro n
    induction n with
    | zero => intro i hi hfu; exact absurd hfu (by omega)
    | succ n ihhc4_1 =>
      intro i hi hfu w2 ew2 w3 ew3 ls hl
      subst ew2
      subst ew3
      refine lv_iload_n hx hb dX6_brokenAll_4 rfl (lv_at hl 0 rfl) ?_
      refine lv_aload_n hx hb dX6_brokenAll_5 rfl (lv_at hl 2 rfl) ?_
      refine va_get (D := D) (ci := 6) (v := .int (nI K)) (C := RX6) (T := TX6) (N := 22) hx hb hts hinX6 hown hE.1 hP 0 rfl rfl 3 (by decide) k_0 (fun _ h9 => h9) rfl dX6_brokenAll_6 ?_
      refine lv_icmp_ge (tgt := 31) hx hb dX6_brokenAll_9 (by decide) (fun c_9 => ?_) (fun c_9 => ?_)
      · have n_9 := zn_le (a := K) (b := i) rfl rfl c_9 (by omega) (by omega)
        obtain rfl : K = i := by omega
        refine lv_iload_n hx hb dX6_brokenAll_31 rfl (lv_at hl 1 rfl) ?_
        exact W.iret (v := brkN rw K) hx hb hr (fun t ht hW => ⟨(brkN rw K), rfl, rfl, ht⟩) (fun q h => by cases h) dX6_brokenAll_32
      · have n_9 := zn_nle (a := K) (b := i) rfl rfl c_9 (by omega) (by omega)
        refine lv_iload_n hx hb dX6_brokenAll_12 rfl (lv_at hl 1 rfl) ?_
        refine lv_aload_n hx hb dX6_brokenAll_13 rfl (lv_at hl 2 rfl) ?_
        refine va_get (D := D) (ci := 6) (v := .ref arw) (C := RX6) (T := TX6) (N := 22) hx hb hts hinX6 hown hE.1 hP 0 rfl rfl 7 (by decide) k_1 (fun _ h9 => h9) rfl dX6_brokenAll_14 ?_
        refine lv_iconst (v := 3) hx hb dX6_brokenAll_17 (by decide) ?_
        refine lv_iload_n hx hb dX6_brokenAll_18 rfl (lv_at hl 0 rfl) ?_
        refine lv_imul hx hb dX6_brokenAll_19 ?_
        refine lv_iconst (v := 2) hx hb dX6_brokenAll_20 (by decide) ?_
        refine lv_iadd hx hb dX6_brokenAll_21 ?_
        refine z_iald hx hb hE hP 1 rfl (j := (3 * i) + 2) (z_add (z_mul rfl rfl) rfl) (by omega) (by decide) dX6_brokenAll_22 ?_
        refine lv_iadd hx hb dX6_brokenAll_23 ?_
        refine lv_istore_n (lv' := [(1, .int ((brkN rw i) + (rw ((3 * i) + 2)))), (2, .int (nI i)), (0, .ref mo)]) hx hb dX6_brokenAll_24 rfl hl (by decide) rfl (fun ls hl => ?_)
        refine lv_iinc (v := nI (i + 1)) (lv' := [(2, .int (nI (i + 1))), (1, .int ((brkN rw i) + (rw ((3 * i) + 2)))), (0, .ref mo)]) hx hb dX6_brokenAll_25 hl (k := 1) rfl (nI_add i 1) (by decide) rfl (fun ls hl => ?_)
        refine lv_goto (tgt := 4) hx hb dX6_brokenAll_28 (by decide) ?_
        exact ihhc4_1 (i + 1) (by omega) (by omega) ((brkN rw i) + (rw ((3 * i) + 2))) rfl (nI (i + 1)) rfl ls (lv_sub hl [0, 1, 2] rfl)
  exact hc4_1 (K + 1) 0 (by omega) (by omega) 0 rfl 0 rfl ls (lv_sub hl [0, 1, 2] rfl)

set_option maxHeartbeats 4000000 in
set_option maxRecDepth 100000 in
theorem c_X6_empty (l : Launch) (D : va_G) (cI cZ cA : ClassId) (sz : Nat) (mo : Nat) (apg : Nat) (P : Nat) (ea : Int32) (K : Nat) (Hn : Nat) (ym : Int32) (tm : Int32) (arw : Nat) (ans : Nat) (aro : Nat) (abo : Nat) (Sm : Nat) (asi : Nat) (sd : Int32) (asv : Nat) (kt : Int32) (ky : Int32) (ks : Nat) (akr : Nat) (akn : Nat) (aks : Nat) (ha : Int64) (ns : Nat → Int32) (h : Nat) (hh : h < 5) : Met l yX6_empty wsX6_empty (zr 1) (va_Pc [.ref mo, .int (nI h)] (zPw D cI cZ cA [(mo, .inr (6, [.ref apg, .int (nI P), .int ea, .int (nI K), .int (nI Hn), .int ym, .int tm, .ref arw, .ref ans, .ref aro, .ref abo, .int (nI Sm), .ref asi, .int sd, .ref asv, .int kt, .int ky, .int (nI ks), .ref akr, .ref akn, .ref aks, .long ha])), (ans, .inl (cI, 20, .inl ns))] sz)) (va_Qv (fun (_ : Unit) => True) (zB D [(mo, .inr (6, [.ref apg, .int (nI P), .int ea, .int (nI K), .int (nI Hn), .int ym, .int tm, .ref arw, .ref ans, .ref aro, .ref abo, .int (nI Sm), .ref asi, .int sd, .ref asv, .int kt, .int ky, .int (nI ks), .ref akr, .ref akn, .ref aks, .long ha])), (ans, .inl (cI, 20, .inl (upd (upd (upd ns (4 * h + 1) (-1)) (4 * h + 2) 0) (4 * h + 3) 0)))] (va_A [(mo, .inr (6, [.ref apg, .int (nI P), .int ea, .int (nI K), .int (nI Hn), .int ym, .int tm, .ref arw, .ref ans, .ref aro, .ref abo, .int (nI Sm), .ref asi, .int sd, .ref asv, .int kt, .int ky, .int (nI ks), .ref akr, .ref akn, .ref aks, .long ha])), (ans, .inl (cI, 20, .inl ns))] sz)) (va_A [(mo, .inr (6, [.ref apg, .int (nI P), .int ea, .int (nI K), .int (nI Hn), .int ym, .int tm, .ref arw, .ref ans, .ref aro, .ref abo, .int (nI Sm), .ref asi, .int sd, .ref asv, .int kt, .int ky, .int (nI ks), .ref akr, .ref akn, .ref aks, .long ha])), (ans, .inl (cI, 20, .inl ns))] sz)) 0 0 (va_A [(mo, .inr (6, [.ref apg, .int (nI P), .int ea, .int (nI K), .int (nI Hn), .int ym, .int tm, .ref arw, .ref ans, .ref aro, .ref abo, .int (nI Sm), .ref asi, .int sd, .ref asv, .int kt, .int ky, .int (nI ks), .ref akr, .ref akn, .ref aks, .long ha])), (ans, .inl (cI, 20, .inl ns))] sz) := by
  refine Met.ofW (cc := cX6_empty) (maxL := 2) (ret := none) (by decide) rfl ?_
  intro p e s m args below meth c s₁ B hml hv
  obtain ⟨rfl, hsz, hP, hD0, hE⟩ := hv
  have hx := B.exec
  have hb := B.bytes
  have hr := B.returns
  have hts := atoms_spec (ws := wsX6_empty) B.pre
  have hown : s.vm.findClass RX6 = some m.cls := findClass_of_methodNamed B.named
  have hlocks := B.notSynchronized
  subst hsz
  have hD := hD0.self (sz := s.heap.size)
  generalize hAe : va_A [(mo, .inr (6, [.ref apg, .int (nI P), .int ea, .int (nI K), .int (nI Hn), .int ym, .int tm, .ref arw, .ref ans, .ref aro, .ref abo, .int (nI Sm), .ref asi, .int sd, .ref asv, .int kt, .int ky, .int (nI ks), .ref akr, .ref akn, .ref aks, .long ha])), (ans, .inl (cI, 20, .inl ns))] s.heap.size = A at hD ⊢
  have hA : ∀ q : Nat, s.heap.size ≤ q → A q := fun q h => by rw [← hAe]; exact Or.inr h
  have hS : va_S A s.heap s.heap [] := va_S.rf
  have hP : va_P D vwCl [(mo, .inr (6, [.ref apg, .int (nI P), .int ea, .int (nI K), .int (nI Hn), .int ym, .int tm, .ref arw, .ref ans, .ref aro, .ref abo, .int (nI Sm), .ref asi, .int sd, .ref asv, .int kt, .int ky, .int (nI ks), .ref akr, .ref akn, .ref aks, .long ha])), (ans, .inl (cI, 20, .inl ns))] s.heap := hP
  have hD : va_D A [(mo, .inr (6, [.ref apg, .int (nI P), .int ea, .int (nI K), .int (nI Hn), .int ym, .int tm, .ref arw, .ref ans, .ref aro, .ref abo, .int (nI Sm), .ref asi, .int sd, .ref asv, .int kt, .int ky, .int (nI ks), .ref akr, .ref akn, .ref aks, .long ha])), (ans, .inl (cI, 20, .inl ns))] := hD
  have hl := lv_entry ([.ref mo, .int (nI h)]) (n := 2) (Nat.le_of_ble_eq_true rfl)
  rw [lg_entry_eq]
  generalize (lg_sl ([.ref mo, .int (nI h)]) ++ List.replicate (2 - (lg_sl ([.ref mo, .int (nI h)])).length) Slot.unset).toArray = ls at hl ⊢
  have hl : lv_has ls 2 [(0, .ref mo), (1, .int (nI h))] := hl
  have hinX6 : ∀ w ∈ wsX60, w ∈ wsX6_empty := fun w h => List.mem_cons_of_mem _ (List.mem_append_right _ h)
  have k_0 := hts (.fieldLink RX6 16 "VowDovesModel" "nests" "[I") (by decide +kernel)
  refine lv_aload_n hx hb dX6_empty_0 rfl (lv_at hl 0 rfl) ?_
  refine va_get (D := D) (ci := 6) (v := .ref ans) (C := RX6) (T := TX6) (N := 22) hx hb hts hinX6 hown hE.1 hP 0 rfl rfl 8 (by decide) k_0 (fun _ h9 => h9) rfl dX6_empty_1 ?_
  refine lv_iconst (v := 4) hx hb dX6_empty_4 (by decide) ?_
  refine lv_iload_n hx hb dX6_empty_5 rfl (lv_at hl 1 rfl) ?_
  refine lv_imul hx hb dX6_empty_6 ?_
  refine lv_iconst (v := 1) hx hb dX6_empty_7 (by decide) ?_
  refine lv_iadd hx hb dX6_empty_8 ?_
  refine lv_iconst (v := (-1)) hx hb dX6_empty_9 (by decide) ?_
  refine z_iast hx hb hE hP hD hS 1 rfl (j := (4 * h) + 1) (z_add (z_mul rfl rfl) rfl) (by omega) (by decide) dX6_empty_10 (fun H locs hP hD hS => ?_)
  have hP : va_P D vwCl [(mo, .inr (6, [.ref apg, .int (nI P), .int ea, .int (nI K), .int (nI Hn), .int ym, .int tm, .ref arw, .ref ans, .ref aro, .ref abo, .int (nI Sm), .ref asi, .int sd, .ref asv, .int kt, .int ky, .int (nI ks), .ref akr, .ref akn, .ref aks, .long ha])), (ans, .inl (cI, 20, .inl (upd ns ((4 * h) + 1) (-1))))] H := hP
  have hD : va_D A [(mo, .inr (6, [.ref apg, .int (nI P), .int ea, .int (nI K), .int (nI Hn), .int ym, .int tm, .ref arw, .ref ans, .ref aro, .ref abo, .int (nI Sm), .ref asi, .int sd, .ref asv, .int kt, .int ky, .int (nI ks), .ref akr, .ref akn, .ref aks, .long ha])), (ans, .inl (cI, 20, .inl (upd ns ((4 * h) + 1) (-1))))] := hD
  refine lv_aload_n hx hb dX6_empty_11 rfl (lv_at hl 0 rfl) ?_
  refine va_get (D := D) (ci := 6) (v := .ref ans) (C := RX6) (T := TX6) (N := 22) hx hb hts hinX6 hown hE.1 hP 0 rfl rfl 8 (by decide) k_0 (fun _ h9 => h9) rfl dX6_empty_12 ?_
  refine lv_iconst (v := 4) hx hb dX6_empty_15 (by decide) ?_
  refine lv_iload_n hx hb dX6_empty_16 rfl (lv_at hl 1 rfl) ?_
  refine lv_imul hx hb dX6_empty_17 ?_
  refine lv_iconst (v := 2) hx hb dX6_empty_18 (by decide) ?_
  refine lv_iadd hx hb dX6_empty_19 ?_
  refine lv_iconst (v := 0) hx hb dX6_empty_20 (by decide) ?_
  refine z_iast hx hb hE hP hD hS 1 rfl (j := (4 * h) + 2) (z_add (z_mul rfl rfl) rfl) (by omega) (by decide) dX6_empty_21 (fun H locs hP hD hS => ?_)
  have hP : va_P D vwCl [(mo, .inr (6, [.ref apg, .int (nI P), .int ea, .int (nI K), .int (nI Hn), .int ym, .int tm, .ref arw, .ref ans, .ref aro, .ref abo, .int (nI Sm), .ref asi, .int sd, .ref asv, .int kt, .int ky, .int (nI ks), .ref akr, .ref akn, .ref aks, .long ha])), (ans, .inl (cI, 20, .inl (upd (upd ns ((4 * h) + 1) (-1)) ((4 * h) + 2) 0)))] H := hP
  have hD : va_D A [(mo, .inr (6, [.ref apg, .int (nI P), .int ea, .int (nI K), .int (nI Hn), .int ym, .int tm, .ref arw, .ref ans, .ref aro, .ref abo, .int (nI Sm), .ref asi, .int sd, .ref asv, .int kt, .int ky, .int (nI ks), .ref akr, .ref akn, .ref aks, .long ha])), (ans, .inl (cI, 20, .inl (upd (upd ns ((4 * h) + 1) (-1)) ((4 * h) + 2) 0)))] := hD
  refine lv_aload_n hx hb dX6_empty_22 rfl (lv_at hl 0 rfl) ?_
  refine va_get (D := D) (ci := 6) (v := .ref ans) (C := RX6) (T := TX6) (N := 22) hx hb hts hinX6 hown hE.1 hP 0 rfl rfl 8 (by decide) k_0 (fun _ h9 => h9) rfl dX6_empty_23 ?_
  refine lv_iconst (v := 4) hx hb dX6_empty_26 (by decide) ?_
  refine lv_iload_n hx hb dX6_empty_27 rfl (lv_at hl 1 rfl) ?_
  refine lv_imul hx hb dX6_empty_28 ?_
  refine lv_iconst (v := 3) hx hb dX6_empty_29 (by decide) ?_
  refine lv_iadd hx hb dX6_empty_30 ?_
  refine lv_iconst (v := 0) hx hb dX6_empty_31 (by decide) ?_
  refine z_iast hx hb hE hP hD hS 1 rfl (j := (4 * h) + 3) (z_add (z_mul rfl rfl) rfl) (by omega) (by decide) dX6_empty_32 (fun H locs hP hD hS => ?_)
  have hP : va_P D vwCl [(mo, .inr (6, [.ref apg, .int (nI P), .int ea, .int (nI K), .int (nI Hn), .int ym, .int tm, .ref arw, .ref ans, .ref aro, .ref abo, .int (nI Sm), .ref asi, .int sd, .ref asv, .int kt, .int ky, .int (nI ks), .ref akr, .ref akn, .ref aks, .long ha])), (ans, .inl (cI, 20, .inl (upd (upd (upd ns ((4 * h) + 1) (-1)) ((4 * h) + 2) 0) ((4 * h) + 3) 0)))] H := hP
  have hD : va_D A [(mo, .inr (6, [.ref apg, .int (nI P), .int ea, .int (nI K), .int (nI Hn), .int ym, .int tm, .ref arw, .ref ans, .ref aro, .ref abo, .int (nI Sm), .ref asi, .int sd, .ref asv, .int kt, .int ky, .int (nI ks), .ref akr, .ref akn, .ref aks, .long ha])), (ans, .inl (cI, 20, .inl (upd (upd (upd ns ((4 * h) + 1) (-1)) ((4 * h) + 2) 0) ((4 * h) + 3) 0)))] := hD
  have hP9 := hP.sub (ws' := [(mo, .inr (6, [.ref apg, .int (nI P), .int ea, .int (nI K), .int (nI Hn), .int ym, .int tm, .ref arw, .ref ans, .ref aro, .ref abo, .int (nI Sm), .ref asi, .int sd, .ref asv, .int kt, .int ky, .int (nI ks), .ref akr, .ref akn, .ref aks, .long ha])), (ans, .inl (cI, 20, .inl (upd (upd (upd ns (4 * h + 1) (-1)) (4 * h + 2) 0) (4 * h + 3) 0)))]) [0, 1] rfl
  have hD9 := hD.sub (ws' := [(mo, .inr (6, [.ref apg, .int (nI P), .int ea, .int (nI K), .int (nI Hn), .int ym, .int tm, .ref arw, .ref ans, .ref aro, .ref abo, .int (nI Sm), .ref asi, .int sd, .ref asv, .int kt, .int ky, .int (nI ks), .ref akr, .ref akn, .ref aks, .long ha])), (ans, .inl (cI, 20, .inl (upd (upd (upd ns (4 * h + 1) (-1)) (4 * h + 2) 0) (4 * h + 3) 0)))]) [0, 1] (by decide) rfl
  exact W.vret hx hb hr (fun t ht hW => ⟨⟨(), rfl, trivial, by rw [ht]; exact hP9, hD9⟩, hS.F ht⟩) hS.2.2 dX6_empty_33

set_option maxHeartbeats 4000000 in
set_option maxRecDepth 100000 in
theorem c_X6_say (l : Launch) (D : va_G) (cI cZ cA : ClassId) (sz : Nat) (mo : Nat) (apg : Nat) (P : Nat) (ea : Int32) (K : Nat) (Hn : Nat) (ym : Int32) (tm : Int32) (arw : Nat) (ans : Nat) (aro : Nat) (abo : Nat) (Sm : Nat) (asi : Nat) (sd : Int32) (asv : Nat) (kt : Int32) (ky : Int32) (ks : Nat) (akr : Nat) (akn : Nat) (aks : Nat) (ha : Int64) (v0 : Int64)  : Met l yX6_say wsX6_say (zr 1) (va_Pc [.ref mo, .long v0] (zPw D cI cZ cA [(mo, .inr (6, [.ref apg, .int (nI P), .int ea, .int (nI K), .int (nI Hn), .int ym, .int tm, .ref arw, .ref ans, .ref aro, .ref abo, .int (nI Sm), .ref asi, .int sd, .ref asv, .int kt, .int ky, .int (nI ks), .ref akr, .ref akn, .ref aks, .long ha]))] sz)) (va_Qv (fun (_ : Unit) => True) (zB D [(mo, .inr (6, [.ref apg, .int (nI P), .int ea, .int (nI K), .int (nI Hn), .int ym, .int tm, .ref arw, .ref ans, .ref aro, .ref abo, .int (nI Sm), .ref asi, .int sd, .ref asv, .int kt, .int ky, .int (nI ks), .ref akr, .ref akn, .ref aks, .long (31 * ha + v0)]))] (va_A [(mo, .inr (6, [.ref apg, .int (nI P), .int ea, .int (nI K), .int (nI Hn), .int ym, .int tm, .ref arw, .ref ans, .ref aro, .ref abo, .int (nI Sm), .ref asi, .int sd, .ref asv, .int kt, .int ky, .int (nI ks), .ref akr, .ref akn, .ref aks, .long ha]))] sz)) (va_A [(mo, .inr (6, [.ref apg, .int (nI P), .int ea, .int (nI K), .int (nI Hn), .int ym, .int tm, .ref arw, .ref ans, .ref aro, .ref abo, .int (nI Sm), .ref asi, .int sd, .ref asv, .int kt, .int ky, .int (nI ks), .ref akr, .ref akn, .ref aks, .long ha]))] sz)) 0 0 (va_A [(mo, .inr (6, [.ref apg, .int (nI P), .int ea, .int (nI K), .int (nI Hn), .int ym, .int tm, .ref arw, .ref ans, .ref aro, .ref abo, .int (nI Sm), .ref asi, .int sd, .ref asv, .int kt, .int ky, .int (nI ks), .ref akr, .ref akn, .ref aks, .long ha]))] sz) := by
  refine Met.ofW (cc := cX6_say) (maxL := 3) (ret := none) (by decide) rfl ?_
  intro p e s m args below meth c s₁ B hml hv
  obtain ⟨rfl, hsz, hP, hD0, hE⟩ := hv
  have hx := B.exec
  have hb := B.bytes
  have hr := B.returns
  have hts := atoms_spec (ws := wsX6_say) B.pre
  have hown : s.vm.findClass RX6 = some m.cls := findClass_of_methodNamed B.named
  have hlocks := B.notSynchronized
  subst hsz
  have hD := hD0.self (sz := s.heap.size)
  generalize hAe : va_A [(mo, .inr (6, [.ref apg, .int (nI P), .int ea, .int (nI K), .int (nI Hn), .int ym, .int tm, .ref arw, .ref ans, .ref aro, .ref abo, .int (nI Sm), .ref asi, .int sd, .ref asv, .int kt, .int ky, .int (nI ks), .ref akr, .ref akn, .ref aks, .long ha]))] s.heap.size = A at hD ⊢
  have hA : ∀ q : Nat, s.heap.size ≤ q → A q := fun q h => by rw [← hAe]; exact Or.inr h
  have hS : va_S A s.heap s.heap [] := va_S.rf
  have hP : va_P D vwCl [(mo, .inr (6, [.ref apg, .int (nI P), .int ea, .int (nI K), .int (nI Hn), .int ym, .int tm, .ref arw, .ref ans, .ref aro, .ref abo, .int (nI Sm), .ref asi, .int sd, .ref asv, .int kt, .int ky, .int (nI ks), .ref akr, .ref akn, .ref aks, .long ha]))] s.heap := hP
  have hD : va_D A [(mo, .inr (6, [.ref apg, .int (nI P), .int ea, .int (nI K), .int (nI Hn), .int ym, .int tm, .ref arw, .ref ans, .ref aro, .ref abo, .int (nI Sm), .ref asi, .int sd, .ref asv, .int kt, .int ky, .int (nI ks), .ref akr, .ref akn, .ref aks, .long ha]))] := hD
  have hl := lv_entry ([.ref mo, .long v0]) (n := 3) (Nat.le_of_ble_eq_true rfl)
  rw [lg_entry_eq]
  generalize (lg_sl ([.ref mo, .long v0]) ++ List.replicate (3 - (lg_sl ([.ref mo, .long v0])).length) Slot.unset).toArray = ls at hl ⊢
  have hl : lv_has ls 3 [(0, .ref mo), (1, .long v0)] := hl
  have hinX6 : ∀ w ∈ wsX60, w ∈ wsX6_say := fun w h => List.mem_cons_of_mem _ (List.mem_append_right _ h)
  have k_0 := hts (.constantLong RX6 203 (31)) (by decide +kernel)
  have k_1 := hts (.fieldLink RX6 205 "VowDovesModel" "hash" "J") (by decide +kernel)
  refine lv_aload_n hx hb dX6_say_0 rfl (lv_at hl 0 rfl) ?_
  refine lv_ldc2 (v := 31) hx hb hown k_0 dX6_say_1 ?_
  refine lv_aload_n hx hb dX6_say_4 rfl (lv_at hl 0 rfl) ?_
  refine va_get (D := D) (ci := 6) (v := .long ha) (C := RX6) (T := TX6) (N := 22) hx hb hts hinX6 hown hE.1 hP 0 rfl rfl 21 (by decide) k_1 (fun _ h9 => h9) rfl dX6_say_5 ?_
  refine lv_lmul hx hb dX6_say_8 ?_
  refine lv_lload_n hx hb dX6_say_9 rfl (lv_at hl 1 rfl) ?_
  refine lv_ladd hx hb dX6_say_10 ?_
  refine va_put (D := D) (ci := 6) (v := .long ((31 * ha) + v0)) (ty := .long) (C := RX6) (T := TX6) (N := 22) hx hb hts hinX6 tyX6 tyX6_ok nmX6 hown hE.1 hP hD hS 0 rfl rfl 21 (by decide) k_1 (fun _ h9 => h9) rfl (by decide +kernel) rfl rfl (Nat.le_of_ble_eq_true rfl) dX6_say_11 (fun H locs hP hD hS => ?_)
  have hP : va_P D vwCl [(mo, .inr (6, [.ref apg, .int (nI P), .int ea, .int (nI K), .int (nI Hn), .int ym, .int tm, .ref arw, .ref ans, .ref aro, .ref abo, .int (nI Sm), .ref asi, .int sd, .ref asv, .int kt, .int ky, .int (nI ks), .ref akr, .ref akn, .ref aks, .long ((31 * ha) + v0)]))] H := hP
  have hD : va_D A [(mo, .inr (6, [.ref apg, .int (nI P), .int ea, .int (nI K), .int (nI Hn), .int ym, .int tm, .ref arw, .ref ans, .ref aro, .ref abo, .int (nI Sm), .ref asi, .int sd, .ref asv, .int kt, .int ky, .int (nI ks), .ref akr, .ref akn, .ref aks, .long ((31 * ha) + v0)]))] := hD
  have hP9 := hP.sub (ws' := [(mo, .inr (6, [.ref apg, .int (nI P), .int ea, .int (nI K), .int (nI Hn), .int ym, .int tm, .ref arw, .ref ans, .ref aro, .ref abo, .int (nI Sm), .ref asi, .int sd, .ref asv, .int kt, .int ky, .int (nI ks), .ref akr, .ref akn, .ref aks, .long (31 * ha + v0)]))]) [0] rfl
  have hD9 := hD.sub (ws' := [(mo, .inr (6, [.ref apg, .int (nI P), .int ea, .int (nI K), .int (nI Hn), .int ym, .int tm, .ref arw, .ref ans, .ref aro, .ref abo, .int (nI Sm), .ref asi, .int sd, .ref asv, .int kt, .int ky, .int (nI ks), .ref akr, .ref akn, .ref aks, .long (31 * ha + v0)]))]) [0] (by decide) rfl
  exact W.vret hx hb hr (fun t ht hW => ⟨⟨(), rfl, trivial, by rw [ht]; exact hP9, hD9⟩, hS.F ht⟩) hS.2.2 dX6_say_14

set_option maxHeartbeats 4000000 in
set_option maxRecDepth 100000 in
theorem c_X6_waysBy (l : Launch) (D : va_G) (cI cZ cA : ClassId) (mo : Nat) (apg : Nat) (P : Nat) (ea : Int32) (K : Nat) (Hn : Nat) (ym : Int32) (tm : Int32) (arw : Nat) (ans : Nat) (aro : Nat) (abo : Nat) (Sm : Nat) (asi : Nat) (sd : Int32) (asv : Nat) (kt : Int32) (ky : Int32) (ks : Nat) (akr : Nat) (akn : Nat) (aks : Nat) (ha : Int64) (rw : Nat → Int32) (si : Nat → Int32) (k : Nat) (fa0 : Int32) (hk : k < 5) (hS8 : Sm ≤ 8) : Met l yX6_waysBy wsX6_waysBy (zr 2) (va_Pc [.ref mo, .int (nI k), .int fa0] (zPr D cI cZ cA [(mo, .inr (6, [.ref apg, .int (nI P), .int ea, .int (nI K), .int (nI Hn), .int ym, .int tm, .ref arw, .ref ans, .ref aro, .ref abo, .int (nI Sm), .ref asi, .int sd, .ref asv, .int kt, .int ky, .int (nI ks), .ref akr, .ref akn, .ref aks, .long ha])), (arw, .inl (cI, 15, .inl rw)), (asi, .inl (cI, 24, .inl si))])) (vp_Sl (fun r => r = wayN rw si k fa0 Sm)) 0 0 (fun _ => False) := by
  refine Met.ofW (cc := cX6_waysBy) (maxL := 7) (ret := (some .long)) (by decide) rfl ?_
  intro p e s m args below meth c s₁ B hml hv
  obtain ⟨rfl, hP, hE⟩ := hv
  have hx := B.exec
  have hb := B.bytes
  have hr := B.returns
  have hts := atoms_spec (ws := wsX6_waysBy) B.pre
  have hown : s.vm.findClass RX6 = some m.cls := findClass_of_methodNamed B.named
  have hlocks := B.notSynchronized
  have hP : va_P D vwCl [(mo, .inr (6, [.ref apg, .int (nI P), .int ea, .int (nI K), .int (nI Hn), .int ym, .int tm, .ref arw, .ref ans, .ref aro, .ref abo, .int (nI Sm), .ref asi, .int sd, .ref asv, .int kt, .int ky, .int (nI ks), .ref akr, .ref akn, .ref aks, .long ha])), (arw, .inl (cI, 15, .inl rw)), (asi, .inl (cI, 24, .inl si))] s.heap := hP
  have hl := lv_entry ([.ref mo, .int (nI k), .int fa0]) (n := 7) (Nat.le_of_ble_eq_true rfl)
  rw [lg_entry_eq]
  generalize (lg_sl ([.ref mo, .int (nI k), .int fa0]) ++ List.replicate (7 - (lg_sl ([.ref mo, .int (nI k), .int fa0])).length) Slot.unset).toArray = ls at hl ⊢
  have hl : lv_has ls 7 [(0, .ref mo), (1, .int (nI k)), (2, .int fa0)] := hl
  have hinX6 : ∀ w ∈ wsX60, w ∈ wsX6_waysBy := fun w h => List.mem_cons_of_mem _ (List.mem_append_right _ h)
  have k_0 := hts (.fieldLink RX6 85 "VowDovesModel" "seenMany" "I") (by decide +kernel)
  have k_1 := hts (.fieldLink RX6 13 "VowDovesModel" "rows" "[I") (by decide +kernel)
  have k_2 := hts (.fieldLink RX6 25 "VowDovesModel" "sights" "[I") (by decide +kernel)
  refine lv_lconst (v := 1) hx hb dX6_waysBy_0 (by decide) ?_
  refine lv_lstore_n (lv' := [(3, .long 1), (0, .ref mo), (1, .int (nI k)), (2, .int fa0)]) hx hb dX6_waysBy_1 rfl hl (by decide) rfl (fun ls hl => ?_)
  refine lv_iconst (v := 0) hx hb dX6_waysBy_2 (by decide) ?_
  refine lv_istore (lv' := [(5, .int 0), (3, .long 1), (0, .ref mo), (1, .int (nI k)), (2, .int fa0)]) hx hb dX6_waysBy_3 hl (by decide) rfl (fun ls hl => ?_)
  have hc5_1 : ∀ (n : Nat) (i : Nat), (i ≤ Sm) → (Sm + 1 ≤ i + n) → ∀ (w2 : Int64), w2 = wayN rw si k fa0 i → ∀ (w3 : Int32), w3 = nI i → ∀ (ls : Array Slot), lv_has ls 7 [(5, .int w3), (3, .long w2), (0, .ref mo), (1, .int (nI k)), (2, .int fa0)] → W p l e (headSpec wsX6_waysBy (zr 2)).room s m ([.ref mo, .int (nI k), .int fa0] : List Value).toArray below meth c s.heap [] 0 0 (MQ below (vp_Sl (fun r => r = wayN rw si k fa0 Sm)) ([.ref mo, .int (nI k), .int fa0] : List Value).toArray s 0 0 (fun _ => False)) (F0 m 5 ls []) := by
    intro n
    induction n with
    | zero => intro i hi hfu; exact absurd hfu (by omega)
    | succ n ihhc5_1 =>
      intro i hi hfu w2 ew2 w3 ew3 ls hl
      subst ew2
      subst ew3
      refine lv_iload hx hb dX6_waysBy_5 (lv_at hl 0 rfl) ?_
      refine lv_aload_n hx hb dX6_waysBy_7 rfl (lv_at hl 2 rfl) ?_
      refine va_get (D := D) (ci := 6) (v := .int (nI Sm)) (C := RX6) (T := TX6) (N := 22) hx hb hts hinX6 hown hE.1 hP 0 rfl rfl 11 (by decide) k_0 (fun _ h9 => h9) rfl dX6_waysBy_8 ?_
      refine lv_icmp_ge (tgt := 92) hx hb dX6_waysBy_11 (by decide) (fun c_11 => ?_) (fun c_11 => ?_)
      · have n_11 := zn_le (a := Sm) (b := i) rfl rfl c_11 (by omega) (by omega)
        obtain rfl : Sm = i := by omega
        refine lv_lload_n hx hb dX6_waysBy_92 rfl (lv_at hl 1 rfl) ?_
        exact W.lret (v := wayN rw si k fa0 Sm) hx hb hr (fun t ht hW => ⟨(wayN rw si k fa0 Sm), rfl, rfl, ht⟩) (fun q h => by cases h) dX6_waysBy_93
      · have n_11 := zn_nle (a := Sm) (b := i) rfl rfl c_11 (by omega) (by omega)
        refine lv_aload_n hx hb dX6_waysBy_14 rfl (lv_at hl 2 rfl) ?_
        refine va_get (D := D) (ci := 6) (v := .ref arw) (C := RX6) (T := TX6) (N := 22) hx hb hts hinX6 hown hE.1 hP 0 rfl rfl 7 (by decide) k_1 (fun _ h9 => h9) rfl dX6_waysBy_15 ?_
        refine lv_iconst (v := 3) hx hb dX6_waysBy_18 (by decide) ?_
        refine lv_iload_n hx hb dX6_waysBy_19 rfl (lv_at hl 3 rfl) ?_
        refine lv_imul hx hb dX6_waysBy_20 ?_
        refine z_iald hx hb hE hP 1 rfl (j := 3 * k) (z_mul rfl rfl) (by omega) (by decide) dX6_waysBy_21 ?_
        refine lv_iload_n hx hb dX6_waysBy_22 rfl (lv_at hl 4 rfl) ?_
        refine lv_aload_n hx hb dX6_waysBy_23 rfl (lv_at hl 2 rfl) ?_
        refine va_get (D := D) (ci := 6) (v := .ref asi) (C := RX6) (T := TX6) (N := 22) hx hb hts hinX6 hown hE.1 hP 0 rfl rfl 12 (by decide) k_2 (fun _ h9 => h9) rfl dX6_waysBy_24 ?_
        refine lv_iconst (v := 3) hx hb dX6_waysBy_27 (by decide) ?_
        refine lv_iload hx hb dX6_waysBy_28 (lv_at hl 0 rfl) ?_
        refine lv_imul hx hb dX6_waysBy_30 ?_
        refine lv_iconst (v := 1) hx hb dX6_waysBy_31 (by decide) ?_
        refine lv_iadd hx hb dX6_waysBy_32 ?_
        refine z_iald hx hb hE hP 2 rfl (j := (3 * i) + 1) (z_add (z_mul rfl rfl) rfl) (by omega) (by decide) dX6_waysBy_33 ?_
        refine z_roSi (As := [.int (rw (3 * k)), .int fa0, .int (si ((3 * i) + 1))]) (rest := []) ⟨hx, hb, hml, hown, hts⟩ (c_X6_tenthsBy l D cI cZ cA (rw (3 * k)) fa0 (si ((3 * i) + 1)) ) (va_cwS 3 hts gX6_waysBy_X6_tenthsBy rfl rfl rfl (by decide +kernel) ⟨Nat.le_of_ble_eq_true rfl, Nat.le_of_ble_eq_true rfl⟩) hE hP [] rfl rfl hl.1 rfl (Nat.le_of_ble_eq_true rfl) dX6_waysBy_34 ⟨Nat.zero_le _, Nat.zero_le _⟩ ?_
        refine lv_istore (lv' := [(6, .int (tb (rw (3 * k)) fa0 (si ((3 * i) + 1)))), (5, .int (nI i)), (3, .long (wayN rw si k fa0 i)), (0, .ref mo), (1, .int (nI k)), (2, .int fa0)]) hx hb dX6_waysBy_37 hl (by decide) rfl (fun ls hl => ?_)
        refine lv_lload_n hx hb dX6_waysBy_39 rfl (lv_at hl 2 rfl) ?_
        refine lv_aload_n hx hb dX6_waysBy_40 rfl (lv_at hl 3 rfl) ?_
        refine va_get (D := D) (ci := 6) (v := .ref asi) (C := RX6) (T := TX6) (N := 22) hx hb hts hinX6 hown hE.1 hP 0 rfl rfl 12 (by decide) k_2 (fun _ h9 => h9) rfl dX6_waysBy_41 ?_
        refine lv_iconst (v := 3) hx hb dX6_waysBy_44 (by decide) ?_
        refine lv_iload hx hb dX6_waysBy_45 (lv_at hl 1 rfl) ?_
        refine lv_imul hx hb dX6_waysBy_47 ?_
        refine z_iald hx hb hE hP 2 rfl (j := 3 * i) (z_mul rfl rfl) (by omega) (by decide) dX6_waysBy_48 ?_
        refine lv_iload_n hx hb dX6_waysBy_49 rfl (lv_at hl 4 rfl) ?_
        refine lv_icmp_eq (tgt := 57) hx hb dX6_waysBy_50 (by decide) (fun c_50 => ?_) (fun c_50 => ?_)
        · refine lv_aload_n hx hb dX6_waysBy_57 rfl (lv_at hl 3 rfl) ?_
          refine va_get (D := D) (ci := 6) (v := .ref asi) (C := RX6) (T := TX6) (N := 22) hx hb hts hinX6 hown hE.1 hP 0 rfl rfl 12 (by decide) k_2 (fun _ h9 => h9) rfl dX6_waysBy_58 ?_
          refine lv_iconst (v := 3) hx hb dX6_waysBy_61 (by decide) ?_
          refine lv_iload hx hb dX6_waysBy_62 (lv_at hl 1 rfl) ?_
          refine lv_imul hx hb dX6_waysBy_64 ?_
          refine lv_iconst (v := 2) hx hb dX6_waysBy_65 (by decide) ?_
          refine lv_iadd hx hb dX6_waysBy_66 ?_
          refine z_iald hx hb hE hP 2 rfl (j := (3 * i) + 2) (z_add (z_mul rfl rfl) rfl) (by omega) (by decide) dX6_waysBy_67 ?_
          refine lv_iconst (v := 1) hx hb dX6_waysBy_68 (by decide) ?_
          refine lv_icmp_ne (tgt := 78) hx hb dX6_waysBy_69 (by decide) (fun c_69 => ?_) (fun c_69 => ?_)
          · refine lv_bipush (v := 10) hx hb dX6_waysBy_78 (by decide) ?_
            refine lv_iload hx hb dX6_waysBy_80 (lv_at hl 0 rfl) ?_
            refine lv_isub hx hb dX6_waysBy_82 ?_
            refine lv_i2l (v := (10 - (tb (rw (3 * k)) fa0 (si ((3 * i) + 1))) : Int32).toInt64) hx hb dX6_waysBy_83 rfl ?_
            refine lv_lmul hx hb dX6_waysBy_84 ?_
            refine lv_lstore_n (lv' := [(3, .long ((wayN rw si k fa0 i) * ((10 - (tb (rw (3 * k)) fa0 (si ((3 * i) + 1))) : Int32).toInt64))), (6, .int (tb (rw (3 * k)) fa0 (si ((3 * i) + 1)))), (5, .int (nI i)), (0, .ref mo), (1, .int (nI k)), (2, .int fa0)]) hx hb dX6_waysBy_85 rfl hl (by decide) rfl (fun ls hl => ?_)
            refine lv_iinc (v := nI (i + 1)) (lv' := [(5, .int (nI (i + 1))), (3, .long ((wayN rw si k fa0 i) * ((10 - (tb (rw (3 * k)) fa0 (si ((3 * i) + 1))) : Int32).toInt64))), (6, .int (tb (rw (3 * k)) fa0 (si ((3 * i) + 1)))), (0, .ref mo), (1, .int (nI k)), (2, .int fa0)]) hx hb dX6_waysBy_86 hl (k := 2) rfl (nI_add i 1) (by decide) rfl (fun ls hl => ?_)
            refine lv_goto (tgt := 5) hx hb dX6_waysBy_89 (by decide) ?_
            exact ihhc5_1 (i + 1) (by omega) (by omega) ((wayN rw si k fa0 i) * ((10 - (tb (rw (3 * k)) fa0 (si ((3 * i) + 1))) : Int32).toInt64)) (by simp [wayN, c_50, c_69]) (nI (i + 1)) rfl ls (lv_sub hl [0, 1, 3, 4, 5] rfl)
          · refine lv_iload hx hb dX6_waysBy_72 (lv_at hl 0 rfl) ?_
            refine lv_i2l (v := ((tb (rw (3 * k)) fa0 (si ((3 * i) + 1))) : Int32).toInt64) hx hb dX6_waysBy_74 rfl ?_
            refine lv_goto (tgt := 84) hx hb dX6_waysBy_75 (by decide) ?_
            refine lv_lmul hx hb dX6_waysBy_84 ?_
            refine lv_lstore_n (lv' := [(3, .long ((wayN rw si k fa0 i) * (((tb (rw (3 * k)) fa0 (si ((3 * i) + 1))) : Int32).toInt64))), (6, .int (tb (rw (3 * k)) fa0 (si ((3 * i) + 1)))), (5, .int (nI i)), (0, .ref mo), (1, .int (nI k)), (2, .int fa0)]) hx hb dX6_waysBy_85 rfl hl (by decide) rfl (fun ls hl => ?_)
            refine lv_iinc (v := nI (i + 1)) (lv' := [(5, .int (nI (i + 1))), (3, .long ((wayN rw si k fa0 i) * (((tb (rw (3 * k)) fa0 (si ((3 * i) + 1))) : Int32).toInt64))), (6, .int (tb (rw (3 * k)) fa0 (si ((3 * i) + 1)))), (0, .ref mo), (1, .int (nI k)), (2, .int fa0)]) hx hb dX6_waysBy_86 hl (k := 2) rfl (nI_add i 1) (by decide) rfl (fun ls hl => ?_)
            refine lv_goto (tgt := 5) hx hb dX6_waysBy_89 (by decide) ?_
            exact ihhc5_1 (i + 1) (by omega) (by omega) ((wayN rw si k fa0 i) * (((tb (rw (3 * k)) fa0 (si ((3 * i) + 1))) : Int32).toInt64)) (by simp [wayN, c_50, c_69]) (nI (i + 1)) rfl ls (lv_sub hl [0, 1, 3, 4, 5] rfl)
        · refine lv_lconst (v := 1) hx hb dX6_waysBy_53 (by decide) ?_
          refine lv_goto (tgt := 84) hx hb dX6_waysBy_54 (by decide) ?_
          refine lv_lmul hx hb dX6_waysBy_84 ?_
          refine lv_lstore_n (lv' := [(3, .long ((wayN rw si k fa0 i) * 1)), (6, .int (tb (rw (3 * k)) fa0 (si ((3 * i) + 1)))), (5, .int (nI i)), (0, .ref mo), (1, .int (nI k)), (2, .int fa0)]) hx hb dX6_waysBy_85 rfl hl (by decide) rfl (fun ls hl => ?_)
          refine lv_iinc (v := nI (i + 1)) (lv' := [(5, .int (nI (i + 1))), (3, .long ((wayN rw si k fa0 i) * 1)), (6, .int (tb (rw (3 * k)) fa0 (si ((3 * i) + 1)))), (0, .ref mo), (1, .int (nI k)), (2, .int fa0)]) hx hb dX6_waysBy_86 hl (k := 2) rfl (nI_add i 1) (by decide) rfl (fun ls hl => ?_)
          refine lv_goto (tgt := 5) hx hb dX6_waysBy_89 (by decide) ?_
          exact ihhc5_1 (i + 1) (by omega) (by omega) ((wayN rw si k fa0 i) * 1) (by simp [wayN, c_50]) (nI (i + 1)) rfl ls (lv_sub hl [0, 1, 3, 4, 5] rfl)
  exact hc5_1 (Sm + 1) 0 (by omega) (by omega) 1 rfl 0 rfl ls (lv_sub hl [0, 1, 2, 3, 4] rfl)

set_option maxHeartbeats 4000000 in
set_option maxRecDepth 100000 in
theorem c_X6_faithsOf (l : Launch) (D : va_G) (cI cZ cA : ClassId) (mo : Nat) (apg : Nat) (P : Nat) (ea : Int32) (K : Nat) (Hn : Nat) (ym : Int32) (tm : Int32) (arw : Nat) (ans : Nat) (aro : Nat) (abo : Nat) (Sm : Nat) (asi : Nat) (sd : Int32) (asv : Nat) (kt : Int32) (ky : Int32) (ks : Nat) (akr : Nat) (akn : Nat) (aks : Nat) (ha : Int64) (rw : Nat → Int32) (si : Nat → Int32) (k : Nat) (hk : k < 5) (hS8 : Sm ≤ 8) : Met l yX6_faithsOf wsX6_faithsOf (zr 3) (va_Pc [.ref mo, .int (nI k)] (zPr D cI cZ cA [(mo, .inr (6, [.ref apg, .int (nI P), .int ea, .int (nI K), .int (nI Hn), .int ym, .int tm, .ref arw, .ref ans, .ref aro, .ref abo, .int (nI Sm), .ref asi, .int sd, .ref asv, .int kt, .int ky, .int (nI ks), .ref akr, .ref akn, .ref aks, .long ha])), (arw, .inl (cI, 15, .inl rw)), (asi, .inl (cI, 24, .inl si))])) (vp_Si (fun r => r = faiN (fun v => wayN rw si k (nI v) Sm) 10)) 0 0 (fun _ => False) := by
  refine Met.ofW (cc := cX6_faithsOf) (maxL := 4) (ret := (some .int)) (by decide) rfl ?_
  intro p e s m args below meth c s₁ B hml hv
  obtain ⟨rfl, hP, hE⟩ := hv
  have hx := B.exec
  have hb := B.bytes
  have hr := B.returns
  have hts := atoms_spec (ws := wsX6_faithsOf) B.pre
  have hown : s.vm.findClass RX6 = some m.cls := findClass_of_methodNamed B.named
  have hlocks := B.notSynchronized
  have hP : va_P D vwCl [(mo, .inr (6, [.ref apg, .int (nI P), .int ea, .int (nI K), .int (nI Hn), .int ym, .int tm, .ref arw, .ref ans, .ref aro, .ref abo, .int (nI Sm), .ref asi, .int sd, .ref asv, .int kt, .int ky, .int (nI ks), .ref akr, .ref akn, .ref aks, .long ha])), (arw, .inl (cI, 15, .inl rw)), (asi, .inl (cI, 24, .inl si))] s.heap := hP
  have hl := lv_entry ([.ref mo, .int (nI k)]) (n := 4) (Nat.le_of_ble_eq_true rfl)
  rw [lg_entry_eq]
  generalize (lg_sl ([.ref mo, .int (nI k)]) ++ List.replicate (4 - (lg_sl ([.ref mo, .int (nI k)])).length) Slot.unset).toArray = ls at hl ⊢
  have hl : lv_has ls 4 [(0, .ref mo), (1, .int (nI k))] := hl
  refine lv_iconst (v := 0) hx hb dX6_faithsOf_0 (by decide) ?_
  refine lv_istore_n (lv' := [(2, .int 0), (0, .ref mo), (1, .int (nI k))]) hx hb dX6_faithsOf_1 rfl hl (by decide) rfl (fun ls hl => ?_)
  refine lv_iconst (v := 0) hx hb dX6_faithsOf_2 (by decide) ?_
  refine lv_istore_n (lv' := [(3, .int 0), (2, .int 0), (0, .ref mo), (1, .int (nI k))]) hx hb dX6_faithsOf_3 rfl hl (by decide) rfl (fun ls hl => ?_)
  have hc4_1 : ∀ (n : Nat) (i : Nat), (i ≤ 10) → (10 + 1 ≤ i + n) → ∀ (w2 : Int32), w2 = faiN (fun v => wayN rw si k (nI v) Sm) i → ∀ (w3 : Int32), w3 = nI i → ∀ (ls : Array Slot), lv_has ls 4 [(3, .int w3), (2, .int w2), (0, .ref mo), (1, .int (nI k))] → W p l e (headSpec wsX6_faithsOf (zr 3)).room s m ([.ref mo, .int (nI k)] : List Value).toArray below meth c s.heap [] 0 0 (MQ below (vp_Si (fun r => r = faiN (fun v => wayN rw si k (nI v) Sm) 10)) ([.ref mo, .int (nI k)] : List Value).toArray s 0 0 (fun _ => False)) (F0 m 4 ls []) := by
    intro n
    induction n with
    | zero => intro i hi hfu; exact absurd hfu (by omega)
    | succ n ihhc4_1 =>
      intro i hi hfu w2 ew2 w3 ew3 ls hl
      subst ew2
      subst ew3
      refine lv_iload_n hx hb dX6_faithsOf_4 rfl (lv_at hl 0 rfl) ?_
      refine lv_bipush (v := 10) hx hb dX6_faithsOf_5 (by decide) ?_
      refine lv_icmp_ge (tgt := 37) hx hb dX6_faithsOf_7 (by decide) (fun c_7 => ?_) (fun c_7 => ?_)
      · have n_7 := zn_le (a := 10) (b := i) rfl rfl c_7 (by omega) (by omega)
        obtain rfl : 10 = i := by omega
        refine lv_iload_n hx hb dX6_faithsOf_37 rfl (lv_at hl 1 rfl) ?_
        exact W.iret (v := faiN (fun v => wayN rw si k (nI v) Sm) 10) hx hb hr (fun t ht hW => ⟨(faiN (fun v => wayN rw si k (nI v) Sm) 10), rfl, rfl, ht⟩) (fun q h => by cases h) dX6_faithsOf_38
      · have n_7 := zn_nle (a := 10) (b := i) rfl rfl c_7 (by omega) (by omega)
        refine lv_iload_n hx hb dX6_faithsOf_10 rfl (lv_at hl 1 rfl) ?_
        refine lv_aload_n hx hb dX6_faithsOf_11 rfl (lv_at hl 2 rfl) ?_
        refine lv_iload_n hx hb dX6_faithsOf_12 rfl (lv_at hl 3 rfl) ?_
        refine lv_iload_n hx hb dX6_faithsOf_13 rfl (lv_at hl 0 rfl) ?_
        refine z_roVl (As := [.int (nI k), .int (nI i)]) (rest := [.int (faiN (fun v => wayN rw si k (nI v) Sm) i)]) ⟨hx, hb, hml, hown, hts⟩ (c_X6_waysBy l D cI cZ cA mo apg P ea K Hn ym tm arw ans aro abo Sm asi sd asv kt ky ks akr akn aks ha rw si k (nI i) (by first | assumption | omega) (by first | assumption | omega)) (cwV 2 hts gX6_faithsOf_X6_waysBy rfl rfl rfl (by decide +kernel) ⟨Nat.le_of_ble_eq_true rfl, Nat.le_of_ble_eq_true rfl⟩) hE hP [0, 1, 2] rfl 0 6 rfl rfl rfl hl.1 rfl (Nat.le_of_ble_eq_true rfl) dX6_faithsOf_14 ⟨Nat.zero_le _, Nat.zero_le _⟩ ?_
        refine lv_lconst (v := 0) hx hb dX6_faithsOf_17 (by decide) ?_
        refine W.lcmp hx hb dX6_faithsOf_18 ?_
        refine lv_if_le (tgt := 28) hx hb dX6_faithsOf_19 (by decide) (fun c_19 => ?_) (fun c_19 => ?_)
        · have c_19 := zl_le c_19
          refine lv_iconst (v := 0) hx hb dX6_faithsOf_28 (by decide) ?_
          refine lv_ior hx hb dX6_faithsOf_29 ?_
          refine lv_istore_n (lv' := [(2, .int ((faiN (fun v => wayN rw si k (nI v) Sm) i) ||| 0)), (3, .int (nI i)), (0, .ref mo), (1, .int (nI k))]) hx hb dX6_faithsOf_30 rfl hl (by decide) rfl (fun ls hl => ?_)
          refine lv_iinc (v := nI (i + 1)) (lv' := [(3, .int (nI (i + 1))), (2, .int ((faiN (fun v => wayN rw si k (nI v) Sm) i) ||| 0)), (0, .ref mo), (1, .int (nI k))]) hx hb dX6_faithsOf_31 hl (k := 1) rfl (nI_add i 1) (by decide) rfl (fun ls hl => ?_)
          refine lv_goto (tgt := 4) hx hb dX6_faithsOf_34 (by decide) ?_
          exact ihhc4_1 (i + 1) (by omega) (by omega) ((faiN (fun v => wayN rw si k (nI v) Sm) i) ||| 0) (by simp only [faiN]; first | rw [if_pos c_19] | rw [if_neg c_19]) (nI (i + 1)) rfl ls (lv_sub hl [0, 1, 2, 3] rfl)
        · have c_19 := Int64.not_le.mpr (zl_nle c_19)
          refine lv_iconst (v := 1) hx hb dX6_faithsOf_22 (by decide) ?_
          refine lv_iload_n hx hb dX6_faithsOf_23 rfl (lv_at hl 0 rfl) ?_
          refine lv_ishl hx hb dX6_faithsOf_24 ?_
          refine lv_goto (tgt := 29) hx hb dX6_faithsOf_25 (by decide) ?_
          refine lv_ior hx hb dX6_faithsOf_29 ?_
          refine lv_istore_n (lv' := [(2, .int ((faiN (fun v => wayN rw si k (nI v) Sm) i) ||| (1 <<< ((nI i) &&& 31)))), (3, .int (nI i)), (0, .ref mo), (1, .int (nI k))]) hx hb dX6_faithsOf_30 rfl hl (by decide) rfl (fun ls hl => ?_)
          refine lv_iinc (v := nI (i + 1)) (lv' := [(3, .int (nI (i + 1))), (2, .int ((faiN (fun v => wayN rw si k (nI v) Sm) i) ||| (1 <<< ((nI i) &&& 31)))), (0, .ref mo), (1, .int (nI k))]) hx hb dX6_faithsOf_31 hl (k := 1) rfl (nI_add i 1) (by decide) rfl (fun ls hl => ?_)
          refine lv_goto (tgt := 4) hx hb dX6_faithsOf_34 (by decide) ?_
          exact ihhc4_1 (i + 1) (by omega) (by omega) ((faiN (fun v => wayN rw si k (nI v) Sm) i) ||| (1 <<< ((nI i) &&& 31))) (by simp only [faiN]; first | rw [if_pos c_19] | rw [if_neg c_19]) (nI (i + 1)) rfl ls (lv_sub hl [0, 1, 2, 3] rfl)
  exact hc4_1 (10 + 1) 0 (by omega) (by omega) 0 rfl 0 rfl ls (lv_sub hl [0, 1, 2, 3] rfl)

set_option maxHeartbeats 4000000 in
set_option maxRecDepth 100000 in
theorem c_X6_likelyOf (l : Launch) (D : va_G) (cI cZ cA : ClassId) (mo : Nat) (apg : Nat) (P : Nat) (ea : Int32) (K : Nat) (Hn : Nat) (ym : Int32) (tm : Int32) (arw : Nat) (ans : Nat) (aro : Nat) (abo : Nat) (Sm : Nat) (asi : Nat) (sd : Int32) (asv : Nat) (kt : Int32) (ky : Int32) (ks : Nat) (akr : Nat) (akn : Nat) (aks : Nat) (ha : Int64) (rw : Nat → Int32) (si : Nat → Int32) (k : Nat) (hk : k < 5) (hS8 : Sm ≤ 8) : Met l yX6_likelyOf wsX6_likelyOf (zr 3) (va_Pc [.ref mo, .int (nI k)] (zPr D cI cZ cA [(mo, .inr (6, [.ref apg, .int (nI P), .int ea, .int (nI K), .int (nI Hn), .int ym, .int tm, .ref arw, .ref ans, .ref aro, .ref abo, .int (nI Sm), .ref asi, .int sd, .ref asv, .int kt, .int ky, .int (nI ks), .ref akr, .ref akn, .ref aks, .long ha])), (arw, .inl (cI, 15, .inl rw)), (asi, .inl (cI, 24, .inl si))])) (vp_Si (fun r => r = likN (fun v => wayN rw si k (nI v) Sm) 10)) 0 0 (fun _ => False) := by
  refine Met.ofW (cc := cX6_likelyOf) (maxL := 8) (ret := (some .int)) (by decide) rfl ?_
  intro p e s m args below meth c s₁ B hml hv
  obtain ⟨rfl, hP, hE⟩ := hv
  have hx := B.exec
  have hb := B.bytes
  have hr := B.returns
  have hts := atoms_spec (ws := wsX6_likelyOf) B.pre
  have hown : s.vm.findClass RX6 = some m.cls := findClass_of_methodNamed B.named
  have hlocks := B.notSynchronized
  have hP : va_P D vwCl [(mo, .inr (6, [.ref apg, .int (nI P), .int ea, .int (nI K), .int (nI Hn), .int ym, .int tm, .ref arw, .ref ans, .ref aro, .ref abo, .int (nI Sm), .ref asi, .int sd, .ref asv, .int kt, .int ky, .int (nI ks), .ref akr, .ref akn, .ref aks, .long ha])), (arw, .inl (cI, 15, .inl rw)), (asi, .inl (cI, 24, .inl si))] s.heap := hP
  have hl := lv_entry ([.ref mo, .int (nI k)]) (n := 8) (Nat.le_of_ble_eq_true rfl)
  rw [lg_entry_eq]
  generalize (lg_sl ([.ref mo, .int (nI k)]) ++ List.replicate (8 - (lg_sl ([.ref mo, .int (nI k)])).length) Slot.unset).toArray = ls at hl ⊢
  have hl : lv_has ls 8 [(0, .ref mo), (1, .int (nI k))] := hl
  refine lv_iconst (v := (-1)) hx hb dX6_likelyOf_0 (by decide) ?_
  refine lv_istore_n (lv' := [(2, .int (-1)), (0, .ref mo), (1, .int (nI k))]) hx hb dX6_likelyOf_1 rfl hl (by decide) rfl (fun ls hl => ?_)
  refine lv_lconst (v := 0) hx hb dX6_likelyOf_2 (by decide) ?_
  refine lv_lstore_n (lv' := [(3, .long 0), (2, .int (-1)), (0, .ref mo), (1, .int (nI k))]) hx hb dX6_likelyOf_3 rfl hl (by decide) rfl (fun ls hl => ?_)
  refine lv_iconst (v := 0) hx hb dX6_likelyOf_4 (by decide) ?_
  refine lv_istore (lv' := [(5, .int 0), (3, .long 0), (2, .int (-1)), (0, .ref mo), (1, .int (nI k))]) hx hb dX6_likelyOf_5 hl (by decide) rfl (fun ls hl => ?_)
  have hc7_1 : ∀ (n : Nat) (i : Nat), (i ≤ 10) → (10 + 1 ≤ i + n) → ∀ (w2 : Int32), w2 = likN (fun v => wayN rw si k (nI v) Sm) i → ∀ (w4 : Int64), w4 = likM (fun v => wayN rw si k (nI v) Sm) i → ∀ (w3 : Int32), w3 = nI i → ∀ (ls : Array Slot), lv_has ls 8 [(5, .int w3), (3, .long w4), (2, .int w2), (0, .ref mo), (1, .int (nI k))] → W p l e (headSpec wsX6_likelyOf (zr 3)).room s m ([.ref mo, .int (nI k)] : List Value).toArray below meth c s.heap [] 0 0 (MQ below (vp_Si (fun r => r = likN (fun v => wayN rw si k (nI v) Sm) 10)) ([.ref mo, .int (nI k)] : List Value).toArray s 0 0 (fun _ => False)) (F0 m 7 ls []) := by
    intro n
    induction n with
    | zero => intro i hi hfu; exact absurd hfu (by omega)
    | succ n ihhc7_1 =>
      intro i hi hfu w2 ew2 w4 ew4 w3 ew3 ls hl
      subst ew2
      subst ew4
      subst ew3
      refine lv_iload hx hb dX6_likelyOf_7 (lv_at hl 0 rfl) ?_
      refine lv_bipush (v := 10) hx hb dX6_likelyOf_9 (by decide) ?_
      refine lv_icmp_ge (tgt := 57) hx hb dX6_likelyOf_11 (by decide) (fun c_11 => ?_) (fun c_11 => ?_)
      · have n_11 := zn_le (a := 10) (b := i) rfl rfl c_11 (by omega) (by omega)
        obtain rfl : 10 = i := by omega
        refine lv_iload_n hx hb dX6_likelyOf_57 rfl (lv_at hl 2 rfl) ?_
        exact W.iret (v := likN (fun v => wayN rw si k (nI v) Sm) 10) hx hb hr (fun t ht hW => ⟨(likN (fun v => wayN rw si k (nI v) Sm) 10), rfl, rfl, ht⟩) (fun q h => by cases h) dX6_likelyOf_58
      · have n_11 := zn_nle (a := 10) (b := i) rfl rfl c_11 (by omega) (by omega)
        refine lv_aload_n hx hb dX6_likelyOf_14 rfl (lv_at hl 3 rfl) ?_
        refine lv_iload_n hx hb dX6_likelyOf_15 rfl (lv_at hl 4 rfl) ?_
        refine lv_iload hx hb dX6_likelyOf_16 (lv_at hl 0 rfl) ?_
        refine z_roVl (As := [.int (nI k), .int (nI i)]) (rest := []) ⟨hx, hb, hml, hown, hts⟩ (c_X6_waysBy l D cI cZ cA mo apg P ea K Hn ym tm arw ans aro abo Sm asi sd asv kt ky ks akr akn aks ha rw si k (nI i) (by first | assumption | omega) (by first | assumption | omega)) (cwV 2 hts gX6_likelyOf_X6_waysBy rfl rfl rfl (by decide +kernel) ⟨Nat.le_of_ble_eq_true rfl, Nat.le_of_ble_eq_true rfl⟩) hE hP [0, 1, 2] rfl 0 6 rfl rfl rfl hl.1 rfl (Nat.le_of_ble_eq_true rfl) dX6_likelyOf_18 ⟨Nat.zero_le _, Nat.zero_le _⟩ ?_
        refine lv_lstore (lv' := [(6, .long (wayN rw si k (nI i) Sm)), (5, .int (nI i)), (3, .long (likM (fun v => wayN rw si k (nI v) Sm) i)), (2, .int (likN (fun v => wayN rw si k (nI v) Sm) i)), (0, .ref mo), (1, .int (nI k))]) hx hb dX6_likelyOf_21 hl (by decide) rfl (fun ls hl => ?_)
        refine lv_lload hx hb dX6_likelyOf_23 (lv_at hl 0 rfl) ?_
        refine lv_lload_n hx hb dX6_likelyOf_25 rfl (lv_at hl 2 rfl) ?_
        refine W.lcmp hx hb dX6_likelyOf_26 ?_
        refine lv_if_le (tgt := 35) hx hb dX6_likelyOf_27 (by decide) (fun c_27 => ?_) (fun c_27 => ?_)
        · have c_27 := zl_le c_27
          refine lv_iload_n hx hb dX6_likelyOf_35 rfl (lv_at hl 3 rfl) ?_
          refine lv_istore_n (lv' := [(2, .int (likN (fun v => wayN rw si k (nI v) Sm) i)), (6, .long (wayN rw si k (nI i) Sm)), (5, .int (nI i)), (3, .long (likM (fun v => wayN rw si k (nI v) Sm) i)), (0, .ref mo), (1, .int (nI k))]) hx hb dX6_likelyOf_36 rfl hl (by decide) rfl (fun ls hl => ?_)
          refine lv_lload hx hb dX6_likelyOf_37 (lv_at hl 1 rfl) ?_
          refine lv_lload_n hx hb dX6_likelyOf_39 rfl (lv_at hl 3 rfl) ?_
          refine W.lcmp hx hb dX6_likelyOf_40 ?_
          refine lv_if_le (tgt := 49) hx hb dX6_likelyOf_41 (by decide) (fun c_41 => ?_) (fun c_41 => ?_)
          · have c_41 := zl_le c_41
            refine lv_lload_n hx hb dX6_likelyOf_49 rfl (lv_at hl 3 rfl) ?_
            refine lv_lstore_n (lv' := [(3, .long (likM (fun v => wayN rw si k (nI v) Sm) i)), (2, .int (likN (fun v => wayN rw si k (nI v) Sm) i)), (6, .long (wayN rw si k (nI i) Sm)), (5, .int (nI i)), (0, .ref mo), (1, .int (nI k))]) hx hb dX6_likelyOf_50 rfl hl (by decide) rfl (fun ls hl => ?_)
            refine lv_iinc (v := nI (i + 1)) (lv' := [(5, .int (nI (i + 1))), (3, .long (likM (fun v => wayN rw si k (nI v) Sm) i)), (2, .int (likN (fun v => wayN rw si k (nI v) Sm) i)), (6, .long (wayN rw si k (nI i) Sm)), (0, .ref mo), (1, .int (nI k))]) hx hb dX6_likelyOf_51 hl (k := 3) rfl (nI_add i 1) (by decide) rfl (fun ls hl => ?_)
            refine lv_goto (tgt := 7) hx hb dX6_likelyOf_54 (by decide) ?_
            exact ihhc7_1 (i + 1) (by omega) (by omega) (likN (fun v => wayN rw si k (nI v) Sm) i) (by simp only [likN]; first | rw [if_pos c_27] | rw [if_neg c_27]) (likM (fun v => wayN rw si k (nI v) Sm) i) (by simp only [likM]; first | rw [if_pos c_41] | rw [if_neg c_41]) (nI (i + 1)) rfl ls (lv_sub hl [0, 1, 2, 4, 5] rfl)
          · have c_41 := Int64.not_le.mpr (zl_nle c_41)
            refine lv_lload hx hb dX6_likelyOf_44 (lv_at hl 1 rfl) ?_
            refine lv_goto (tgt := 50) hx hb dX6_likelyOf_46 (by decide) ?_
            refine lv_lstore_n (lv' := [(3, .long (wayN rw si k (nI i) Sm)), (2, .int (likN (fun v => wayN rw si k (nI v) Sm) i)), (6, .long (wayN rw si k (nI i) Sm)), (5, .int (nI i)), (0, .ref mo), (1, .int (nI k))]) hx hb dX6_likelyOf_50 rfl hl (by decide) rfl (fun ls hl => ?_)
            refine lv_iinc (v := nI (i + 1)) (lv' := [(5, .int (nI (i + 1))), (3, .long (wayN rw si k (nI i) Sm)), (2, .int (likN (fun v => wayN rw si k (nI v) Sm) i)), (6, .long (wayN rw si k (nI i) Sm)), (0, .ref mo), (1, .int (nI k))]) hx hb dX6_likelyOf_51 hl (k := 3) rfl (nI_add i 1) (by decide) rfl (fun ls hl => ?_)
            refine lv_goto (tgt := 7) hx hb dX6_likelyOf_54 (by decide) ?_
            exact ihhc7_1 (i + 1) (by omega) (by omega) (likN (fun v => wayN rw si k (nI v) Sm) i) (by simp only [likN]; first | rw [if_pos c_27] | rw [if_neg c_27]) (wayN rw si k (nI i) Sm) (by simp only [likM]; first | rw [if_pos c_41] | rw [if_neg c_41]) (nI (i + 1)) rfl ls (lv_sub hl [0, 1, 2, 4, 5] rfl)
        · have c_27 := Int64.not_le.mpr (zl_nle c_27)
          refine lv_iload hx hb dX6_likelyOf_30 (lv_at hl 1 rfl) ?_
          refine lv_goto (tgt := 36) hx hb dX6_likelyOf_32 (by decide) ?_
          refine lv_istore_n (lv' := [(2, .int (nI i)), (6, .long (wayN rw si k (nI i) Sm)), (5, .int (nI i)), (3, .long (likM (fun v => wayN rw si k (nI v) Sm) i)), (0, .ref mo), (1, .int (nI k))]) hx hb dX6_likelyOf_36 rfl hl (by decide) rfl (fun ls hl => ?_)
          refine lv_lload hx hb dX6_likelyOf_37 (lv_at hl 1 rfl) ?_
          refine lv_lload_n hx hb dX6_likelyOf_39 rfl (lv_at hl 3 rfl) ?_
          refine W.lcmp hx hb dX6_likelyOf_40 ?_
          refine lv_if_le (tgt := 49) hx hb dX6_likelyOf_41 (by decide) (fun c_41 => ?_) (fun c_41 => ?_)
          · have c_41 := zl_le c_41
            refine lv_lload_n hx hb dX6_likelyOf_49 rfl (lv_at hl 3 rfl) ?_
            refine lv_lstore_n (lv' := [(3, .long (likM (fun v => wayN rw si k (nI v) Sm) i)), (2, .int (nI i)), (6, .long (wayN rw si k (nI i) Sm)), (5, .int (nI i)), (0, .ref mo), (1, .int (nI k))]) hx hb dX6_likelyOf_50 rfl hl (by decide) rfl (fun ls hl => ?_)
            refine lv_iinc (v := nI (i + 1)) (lv' := [(5, .int (nI (i + 1))), (3, .long (likM (fun v => wayN rw si k (nI v) Sm) i)), (2, .int (nI i)), (6, .long (wayN rw si k (nI i) Sm)), (0, .ref mo), (1, .int (nI k))]) hx hb dX6_likelyOf_51 hl (k := 3) rfl (nI_add i 1) (by decide) rfl (fun ls hl => ?_)
            refine lv_goto (tgt := 7) hx hb dX6_likelyOf_54 (by decide) ?_
            exact ihhc7_1 (i + 1) (by omega) (by omega) (nI i) (by simp only [likN]; first | rw [if_pos c_27] | rw [if_neg c_27]) (likM (fun v => wayN rw si k (nI v) Sm) i) (by simp only [likM]; first | rw [if_pos c_41] | rw [if_neg c_41]) (nI (i + 1)) rfl ls (lv_sub hl [0, 1, 2, 4, 5] rfl)
          · have c_41 := Int64.not_le.mpr (zl_nle c_41)
            refine lv_lload hx hb dX6_likelyOf_44 (lv_at hl 1 rfl) ?_
            refine lv_goto (tgt := 50) hx hb dX6_likelyOf_46 (by decide) ?_
            refine lv_lstore_n (lv' := [(3, .long (wayN rw si k (nI i) Sm)), (2, .int (nI i)), (6, .long (wayN rw si k (nI i) Sm)), (5, .int (nI i)), (0, .ref mo), (1, .int (nI k))]) hx hb dX6_likelyOf_50 rfl hl (by decide) rfl (fun ls hl => ?_)
            refine lv_iinc (v := nI (i + 1)) (lv' := [(5, .int (nI (i + 1))), (3, .long (wayN rw si k (nI i) Sm)), (2, .int (nI i)), (6, .long (wayN rw si k (nI i) Sm)), (0, .ref mo), (1, .int (nI k))]) hx hb dX6_likelyOf_51 hl (k := 3) rfl (nI_add i 1) (by decide) rfl (fun ls hl => ?_)
            refine lv_goto (tgt := 7) hx hb dX6_likelyOf_54 (by decide) ?_
            exact ihhc7_1 (i + 1) (by omega) (by omega) (nI i) (by simp only [likN]; first | rw [if_pos c_27] | rw [if_neg c_27]) (wayN rw si k (nI i) Sm) (by simp only [likM]; first | rw [if_pos c_41] | rw [if_neg c_41]) (nI (i + 1)) rfl ls (lv_sub hl [0, 1, 2, 4, 5] rfl)
  exact hc7_1 (10 + 1) 0 (by omega) (by omega) (-1) rfl 0 rfl 0 rfl ls (lv_sub hl [0, 1, 2, 3, 4] rfl)

set_option maxHeartbeats 4000000 in
set_option maxRecDepth 100000 in
theorem c_X6_tenthsIn (l : Launch) (D : va_G) (cI cZ cA : ClassId) (mo : Nat) (apg : Nat) (P : Nat) (ea : Int32) (K : Nat) (Hn : Nat) (ym : Int32) (tm : Int32) (arw : Nat) (ans : Nat) (aro : Nat) (abo : Nat) (Sm : Nat) (asi : Nat) (sd : Int32) (asv : Nat) (kt : Int32) (ky : Int32) (ks : Nat) (akr : Nat) (akn : Nat) (aks : Nat) (ha : Int64) (rw : Nat → Int32) (ns : Nat → Int32) (h : Nat) (hK : K ≤ 5) (hh : h < Hn) (hH : Hn ≤ 5) (ok : letOk ns K Hn) : Met l yX6_tenthsIn wsX6_tenthsIn (zr 3) (va_Pc [.ref mo, .int (nI h)] (zPr D cI cZ cA [(mo, .inr (6, [.ref apg, .int (nI P), .int ea, .int (nI K), .int (nI Hn), .int ym, .int tm, .ref arw, .ref ans, .ref aro, .ref abo, .int (nI Sm), .ref asi, .int sd, .ref asv, .int kt, .int ky, .int (nI ks), .ref akr, .ref akn, .ref aks, .long ha])), (arw, .inl (cI, 15, .inl rw)), (ans, .inl (cI, 20, .inl ns))])) (vp_Si (fun r => r = tIn rw ns h)) 0 0 (fun _ => False) := by
  refine Met.ofW (cc := cX6_tenthsIn) (maxL := 2) (ret := (some .int)) (by decide) rfl ?_
  intro p e s m args below meth c s₁ B hml hv
  obtain ⟨rfl, hP, hE⟩ := hv
  have hx := B.exec
  have hb := B.bytes
  have hr := B.returns
  have hts := atoms_spec (ws := wsX6_tenthsIn) B.pre
  have hown : s.vm.findClass RX6 = some m.cls := findClass_of_methodNamed B.named
  have hlocks := B.notSynchronized
  have hP : va_P D vwCl [(mo, .inr (6, [.ref apg, .int (nI P), .int ea, .int (nI K), .int (nI Hn), .int ym, .int tm, .ref arw, .ref ans, .ref aro, .ref abo, .int (nI Sm), .ref asi, .int sd, .ref asv, .int kt, .int ky, .int (nI ks), .ref akr, .ref akn, .ref aks, .long ha])), (arw, .inl (cI, 15, .inl rw)), (ans, .inl (cI, 20, .inl ns))] s.heap := hP
  have hl := lv_entry ([.ref mo, .int (nI h)]) (n := 2) (Nat.le_of_ble_eq_true rfl)
  rw [lg_entry_eq]
  generalize (lg_sl ([.ref mo, .int (nI h)]) ++ List.replicate (2 - (lg_sl ([.ref mo, .int (nI h)])).length) Slot.unset).toArray = ls at hl ⊢
  have hl : lv_has ls 2 [(0, .ref mo), (1, .int (nI h))] := hl
  have hinX6 : ∀ w ∈ wsX60, w ∈ wsX6_tenthsIn := fun w h => List.mem_cons_of_mem _ (List.mem_append_right _ h)
  have k_0 := hts (.fieldLink RX6 16 "VowDovesModel" "nests" "[I") (by decide +kernel)
  refine lv_aload_n hx hb dX6_tenthsIn_0 rfl (lv_at hl 0 rfl) ?_
  refine va_get (D := D) (ci := 6) (v := .ref ans) (C := RX6) (T := TX6) (N := 22) hx hb hts hinX6 hown hE.1 hP 0 rfl rfl 8 (by decide) k_0 (fun _ h9 => h9) rfl dX6_tenthsIn_1 ?_
  refine lv_iconst (v := 4) hx hb dX6_tenthsIn_4 (by decide) ?_
  refine lv_iload_n hx hb dX6_tenthsIn_5 rfl (lv_at hl 1 rfl) ?_
  refine lv_imul hx hb dX6_tenthsIn_6 ?_
  refine lv_iconst (v := 1) hx hb dX6_tenthsIn_7 (by decide) ?_
  refine lv_iadd hx hb dX6_tenthsIn_8 ?_
  refine z_iald hx hb hE hP 2 rfl (j := (4 * h) + 1) (z_add (z_mul rfl rfl) rfl) (by omega) (by decide) dX6_tenthsIn_9 ?_
  refine lv_iconst (v := (-1)) hx hb dX6_tenthsIn_10 (by decide) ?_
  refine lv_icmp_ne (tgt := 18) hx hb dX6_tenthsIn_11 (by decide) (fun c_11 => ?_) (fun c_11 => ?_)
  · obtain ⟨k0, hk0, ek⟩ := (ok h hh).resolve_left c_11
    refine lv_aload_n hx hb dX6_tenthsIn_18 rfl (lv_at hl 0 rfl) ?_
    refine lv_aload_n hx hb dX6_tenthsIn_19 rfl (lv_at hl 0 rfl) ?_
    refine va_get (D := D) (ci := 6) (v := .ref ans) (C := RX6) (T := TX6) (N := 22) hx hb hts hinX6 hown hE.1 hP 0 rfl rfl 8 (by decide) k_0 (fun _ h9 => h9) rfl dX6_tenthsIn_20 ?_
    refine lv_iconst (v := 4) hx hb dX6_tenthsIn_23 (by decide) ?_
    refine lv_iload_n hx hb dX6_tenthsIn_24 rfl (lv_at hl 1 rfl) ?_
    refine lv_imul hx hb dX6_tenthsIn_25 ?_
    refine lv_iconst (v := 1) hx hb dX6_tenthsIn_26 (by decide) ?_
    refine lv_iadd hx hb dX6_tenthsIn_27 ?_
    refine z_iald hx hb hE hP 2 rfl (j := (4 * h) + 1) (z_add (z_mul rfl rfl) rfl) (by omega) (by decide) dX6_tenthsIn_28 ?_
    refine lv_aload_n hx hb dX6_tenthsIn_29 rfl (lv_at hl 0 rfl) ?_
    refine va_get (D := D) (ci := 6) (v := .ref ans) (C := RX6) (T := TX6) (N := 22) hx hb hts hinX6 hown hE.1 hP 0 rfl rfl 8 (by decide) k_0 (fun _ h9 => h9) rfl dX6_tenthsIn_30 ?_
    refine lv_iconst (v := 4) hx hb dX6_tenthsIn_33 (by decide) ?_
    refine lv_iload_n hx hb dX6_tenthsIn_34 rfl (lv_at hl 1 rfl) ?_
    refine lv_imul hx hb dX6_tenthsIn_35 ?_
    refine z_iald hx hb hE hP 2 rfl (j := 4 * h) (z_mul rfl rfl) (by omega) (by decide) dX6_tenthsIn_36 ?_
    rw [show (ns ((4 * h) + 1) : Int32) = nI k0 from ek]
    refine z_roVi (As := [.int (nI k0), .int (ns (4 * h))]) (rest := []) ⟨hx, hb, hml, hown, hts⟩ (c_X6_tenthsOf l D cI cZ cA mo apg P ea K Hn ym tm arw ans aro abo Sm asi sd asv kt ky ks akr akn aks ha rw k0 (ns (4 * h)) (by first | assumption | omega)) (cwV 2 hts gX6_tenthsIn_X6_tenthsOf rfl rfl rfl (by decide +kernel) ⟨Nat.le_of_ble_eq_true rfl, Nat.le_of_ble_eq_true rfl⟩) hE hP [0, 1] rfl 0 6 rfl rfl rfl hl.1 rfl (Nat.le_of_ble_eq_true rfl) dX6_tenthsIn_37 ⟨Nat.zero_le _, Nat.zero_le _⟩ ?_
    exact W.iret (v := (tb (rw (3 * k0)) (rw (3 * k0 + 1)) (ns (4 * h)))) hx hb hr (fun t ht hW => ⟨(tb (rw (3 * k0)) (rw (3 * k0 + 1)) (ns (4 * h))), rfl, (tIn_k ek (by omega)).symm, ht⟩) (fun q h => by cases h) dX6_tenthsIn_40
  · refine lv_iconst (v := (-1)) hx hb dX6_tenthsIn_14 (by decide) ?_
    refine lv_goto (tgt := 40) hx hb dX6_tenthsIn_15 (by decide) ?_
    exact W.iret (v := (-1)) hx hb hr (fun t ht hW => ⟨(-1), rfl, (by rw [tIn, if_pos c_11]), ht⟩) (fun q h => by cases h) dX6_tenthsIn_40
end
