theorem mChunk {P : MI → Prop} {l : List MI} (k n : Nat) (h1 : ∀ I ∈ (l.drop k).take n, P I) (h2 : ∀ I ∈ l.drop (k + n), P I) : ∀ I ∈ l.drop k, P I := fun I hI => by
  rw [← List.take_append_drop n (l.drop k), List.drop_drop] at hI
  exact (List.mem_append.mp hI).elim (h1 I) (h2 I)
set_option maxRecDepth 100000 in
theorem aL_law_end : ∀ I ∈ kL_law.drop 1120, mOk ML_law I := fun I hI => by
  have e9 : kL_law.drop 1120 = [] := by decide +kernel
  rw [e9] at hI
  cases hI
theorem aL_law : mAll ML_law := fun I hI => (mChunk 0 40 aL_law_0 (mChunk 40 40 aL_law_40 (mChunk 80 40 aL_law_80 (mChunk 120 40 aL_law_120 (mChunk 160 40 aL_law_160 (mChunk 200 40 aL_law_200 (mChunk 240 40 aL_law_240 (mChunk 280 40 aL_law_280 (mChunk 320 40 aL_law_320 (mChunk 360 40 aL_law_360 (mChunk 400 40 aL_law_400 (mChunk 440 40 aL_law_440 (mChunk 480 40 aL_law_480 (mChunk 520 40 aL_law_520 (mChunk 560 40 aL_law_560 (mChunk 600 40 aL_law_600 (mChunk 640 40 aL_law_640 (mChunk 680 40 aL_law_680 (mChunk 720 40 aL_law_720 (mChunk 760 40 aL_law_760 (mChunk 800 40 aL_law_800 (mChunk 840 40 aL_law_840 (mChunk 880 40 aL_law_880 (mChunk 920 40 aL_law_920 (mChunk 960 40 aL_law_960 (mChunk 1000 40 aL_law_1000 (mChunk 1040 40 aL_law_1040 (mChunk 1080 40 aL_law_1080 (aL_law_end))))))))))))))))))))))))))))) I hI

