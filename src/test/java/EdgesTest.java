/** Promises 2 to 14: for each sentence that names a boundary case, the case inside and the case outside. */
public final class EdgesTest {
    private static final int NONE = ForwardHeap.NONE;
    private static final int[] OTHERS = {-1, 3, 4, Integer.MIN_VALUE, Integer.MAX_VALUE};
    private static final Check CHECK = new Check();

    public static void main(String[] args) {
        allocFrom0To20Fields();
        allocCollectsWhenNoneIsActiveAndNoneIsFree();
        allocCollectsInEveryPhase();
        allocHoldsTheOldOneUntilThen();
        allocAnswersNoneWhenNoneIsFreeBehindIt();
        dropTellsWhetherItHeldSomething();
        readTellsATagOf0AndNothing();
        writeTellsATagOf0AndNothing();
        fieldsFromTheFirstToTheLast();
        tagsOfAllSizes();
        sameOfNothing();
        whereOfNothingOfTheFirstAndOfTheLastPlace();
        beginWhenOneGoesOn();
        workSoLongAsACycleGoesOn();
        workFrom0To10000();
        collectTellsHowManyAreFree();
        usedWordsAreInUseOrWere();
        seenWordsBeforeAnyCycle();
        seenWordsWhereAnObjectLiesNow();
        seenWordsOfAFreeRegion();
        regionOfOtherWhats();
        countOfOtherWhats();
        countOfThoseThatWait();
        CHECK.end();
    }

    /** 2: "when there are not 0 .. 20 fields"; what is outside is in RefusedCallsTest. */
    private static void allocFrom0To20Fields() {
        for (int fields = 0; fields <= 20; fields++) {
            ForwardHeap heap = new ForwardHeap(3, 0);
            heap.alloc(0, fields, 1);
            CHECK.due("words of " + fields + " fields", heap.region(0, 1), fields + 2);
            CHECK.due("the next one's place", heap.alloc(1, 0, 1), fields + 2);
            for (int i = 0; i < fields; i++) {
                CHECK.due("a new field", heap.read(2, 0, i), 0);
                CHECK.due("holds nothing", heap.where(2), NONE);
            }
        }
    }

    /** 2: "If no region is active then and none is free, a WHOLE COLLECTION is made first". */
    private static void allocCollectsWhenNoneIsActiveAndNoneIsFree() {
        ForwardHeap heap = new ForwardHeap(3, 0);
        Fill.wholeRegions(heap, 0, 2);
        CHECK.due("one is free: it is taken", heap.alloc(0, 20, 1), 256);
        CHECK.due("without a collection", heap.region(0, 0), 3);
        Fill.oneRegister(heap, 0, 104);
        CHECK.due("one is active and has just room", heap.alloc(0, 0, 2), 382);
        CHECK.due("without a collection", heap.region(0, 0), 3);
        CHECK.due("none was seen", heap.region(2, 2), 0);
        CHECK.due("none has room, none is free", heap.alloc(1, 0, 3), 0);
        CHECK.due("region 0 was emptied", heap.region(0, 1), 2);
        CHECK.due("region 1 was emptied", heap.region(1, 0), 0);
        CHECK.due("what is held was seen", heap.region(2, 2), 2);
        CHECK.due("and failed, as none was free", heap.count(1), 1);
    }

    /** 2: as before, while a cycle goes on: that one is ended, and one more is made. */
    private static void allocCollectsInEveryPhase() {
        int[] units = {0, 2, 3};
        for (int phase = 1; phase <= 3; phase++) {
            ForwardHeap heap = new ForwardHeap(3, 0);
            Fill.wholeRegions(heap, 0, 2);
            Fill.oneRegister(heap, 0, 126);
            heap.drop(0);
            heap.alloc(0, 0, 1);
            heap.begin();
            CHECK.due("phase", heap.work(units[phase - 1]), phase);
            CHECK.due("room in the active one is none for more", heap.region(2, 1), 128);
            CHECK.due("alloc in phase " + phase, heap.alloc(1, 0, 2), 128);
            CHECK.due("none goes on", heap.work(0), 0);
            CHECK.due("the new one was not seen", heap.region(1, 2), 0);
            CHECK.due("in the first cycle none was free", heap.count(1), phase == 1 ? 1 : 0);
            CHECK.due("the second cycle moved what is held", heap.count(0), 1);
            CHECK.due("to the least free region", heap.where(0), 0);
            CHECK.due("region 2 is free", heap.region(2, 0), 0);
        }
    }

    /** 2: "(the register holds what it held until then)". */
    private static void allocHoldsTheOldOneUntilThen() {
        for (int held = 0; held <= 1; held++) {
            ForwardHeap heap = new ForwardHeap(3, 127);
            Fill.wholeRegions(heap, 9, 2);
            Fill.oneRegister(heap, 9, 126);
            heap.alloc(5, 0, 7);
            heap.drop(9);
            if (held == 0) {
                heap.drop(5);
            }
            CHECK.due("a place", heap.alloc(5, 20, 8), 0);
            CHECK.due("held " + held + ": its region stays", heap.region(2, 0), held == 1 ? 3 : 0);
            CHECK.due("held " + held + ": its words", heap.region(2, 2), held == 1 ? 2 : 0);
            CHECK.due("the register holds the new one", heap.tag(5), 8);
        }
    }

    /** 2: "if none is free behind it, the answer is NONE, and the register keeps that". */
    private static void allocAnswersNoneWhenNoneIsFreeBehindIt() {
        for (int held = 1; held <= 3; held++) {
            ForwardHeap heap = new ForwardHeap(3, 127);
            for (int region = 0; region < 3; region++) {
                heap.alloc(region < held ? region : 9, 18, region + 1);
                Fill.oneRegister(heap, 9, 108);
            }
            heap.drop(9);
            CHECK.due("held in " + held + " regions", heap.alloc(0, 18, 40), held == 3 ? NONE : 128 * held);
            CHECK.due("the register", heap.tag(0), held == 3 ? 1 : 40);
            CHECK.due("its place", heap.where(0), held == 3 ? 0 : 128 * held);
            CHECK.due("another one with nothing", heap.alloc(9, 18, 41), held == 3 ? NONE : 128 * held + 20);
            CHECK.due("keeps nothing", heap.where(9), held == 3 ? NONE : 128 * held + 20);
        }
    }

    /** 4: "whether it held something". */
    private static void dropTellsWhetherItHeldSomething() {
        ForwardHeap heap = new ForwardHeap(3, 0);
        CHECK.due("nothing at first", heap.drop(0), false);
        heap.alloc(0, 1, 0);
        heap.move(9, 0);
        CHECK.due("something, though its tag is 0", heap.drop(0), true);
        CHECK.due("nothing then", heap.drop(0), false);
        CHECK.due("the other one's is something still", heap.drop(9), true);
        heap.alloc(0, 1, 1);
        heap.read(3, 0, 0);
        CHECK.due("nothing that was read", heap.drop(3), false);
        heap.move(0, 3);
        CHECK.due("nothing that was moved", heap.drop(0), false);
    }

    /** 5: "its tag, 0 for nothing". */
    private static void readTellsATagOf0AndNothing() {
        ForwardHeap heap = new ForwardHeap(3, 0);
        heap.alloc(0, 2, 5);
        heap.alloc(1, 0, 0);
        heap.write(0, 0, 1);
        CHECK.due("a tag that is 0", heap.read(2, 0, 0), 0);
        CHECK.due("is of something", heap.where(2), 4);
        CHECK.due("nothing", heap.read(2, 0, 1), 0);
        CHECK.due("is held then", heap.where(2), NONE);
    }

    /** 6: "the tag of what it held, 0 for nothing". */
    private static void writeTellsATagOf0AndNothing() {
        ForwardHeap heap = new ForwardHeap(3, 0);
        heap.alloc(0, 1, 5);
        heap.alloc(1, 0, 0);
        CHECK.due("it held nothing", heap.write(0, 0, 0), 0);
        CHECK.due("it held itself", heap.write(0, 0, 1), 5);
        CHECK.due("it held a tag that is 0", heap.write(0, 0, 9), 0);
        CHECK.due("it was made to hold nothing", heap.write(0, 0, 1), 0);
        CHECK.due("and then something", heap.read(2, 0, 0), 0);
        CHECK.due("of that place", heap.where(2), 3);
    }

    /** 5, 6: "IndexOutOfBoundsException (the field)". */
    private static void fieldsFromTheFirstToTheLast() {
        for (int fields = 0; fields <= 20; fields++) {
            ForwardHeap heap = new ForwardHeap(3, 0);
            heap.alloc(0, fields, 5);
            heap.alloc(1, 0, 6);
            for (int i = 0; i < fields; i++) {
                CHECK.due("write field " + i + " of " + fields, heap.write(0, i, 1), 0);
                CHECK.due("read field " + i + " of " + fields, heap.read(2, 0, i), 6);
            }
            int behind = fields;
            CHECK.refused("read behind the last of " + fields, heap, IndexOutOfBoundsException.class,
                () -> heap.read(2, 0, behind));
            CHECK.refused("write behind the last of " + fields, heap, IndexOutOfBoundsException.class,
                () -> heap.write(0, behind, 1));
        }
    }

    /** 7: a tag is any int, of an object that moves, too. */
    private static void tagsOfAllSizes() {
        for (int tag : new int[] {0, 1, -1, Integer.MIN_VALUE, Integer.MAX_VALUE}) {
            ForwardHeap heap = new ForwardHeap(3, 0);
            heap.alloc(9, 0, tag);
            Fill.oneRegister(heap, 0, 128);
            heap.collect();
            CHECK.due("it was moved", heap.count(0) > 0, true);
            CHECK.due("tag", heap.tag(9), tag);
        }
    }

    /** 8: "or both nothing". */
    private static void sameOfNothing() {
        ForwardHeap heap = new ForwardHeap(3, 0);
        CHECK.due("both nothing", heap.same(0, 9), true);
        CHECK.due("one register of nothing", heap.same(0, 0), true);
        heap.alloc(0, 0, 0);
        CHECK.due("one nothing", heap.same(0, 9), false);
        CHECK.due("the other one nothing", heap.same(9, 0), false);
        heap.alloc(9, 0, 0);
        CHECK.due("two that are alike", heap.same(0, 9), false);
        heap.move(9, 0);
        CHECK.due("the same one", heap.same(0, 9), true);
        heap.drop(0);
        CHECK.due("one nothing again", heap.same(0, 9), false);
        heap.drop(9);
        CHECK.due("both nothing again", heap.same(0, 9), true);
    }

    /** 9: "NONE for nothing". */
    private static void whereOfNothingOfTheFirstAndOfTheLastPlace() {
        ForwardHeap heap = new ForwardHeap(16, 0);
        CHECK.due("nothing", heap.where(0), NONE);
        heap.alloc(0, 20, 1);
        CHECK.due("the first place", heap.where(0), 0);
        Fill.oneRegister(heap, 1, 106);
        for (int region = 1; region < 16; region++) {
            Fill.oneRegister(heap, 1, region < 15 ? 128 : 126);
        }
        CHECK.due("the last place", heap.alloc(9, 0, 1), 15 * 128 + 126);
        CHECK.due("the last place", heap.where(9), 15 * 128 + 126);
        heap.drop(9);
        CHECK.due("nothing again", heap.where(9), NONE);
    }

    /** 10: "0 when one goes on". */
    private static void beginWhenOneGoesOn() {
        for (Stage stage : Stage.values()) {
            ForwardHeap heap = stage.make();
            CHECK.due("begin in " + stage, heap.begin(), stage.phase == 0 ? 1 : 0);
            CHECK.due("the phase then", heap.work(0), stage.phase == 0 ? 1 : stage.phase);
            if (stage.phase != 0) {
                CHECK.due("begin in " + stage + " changes nothing",
                    Aftermath.of(heap).equals(Aftermath.of(stage.make())), true);
            }
        }
        ForwardHeap heap = Stage.LAST_REGION.make();
        CHECK.due("before the last unit", heap.begin(), 0);
        heap.work(1);
        CHECK.due("behind the last unit", heap.begin(), 1);
    }

    /** 11: "So many units, if a cycle goes on so long": one of Stage.MARKING takes 13. */
    private static void workSoLongAsACycleGoesOn() {
        CHECK.due("one less", Stage.MARKING.make().work(12), 3);
        CHECK.due("just so many", Stage.MARKING.make().work(13), 0);
        CHECK.due("one more", Stage.MARKING.make().work(14), 0);
        for (int units = 1; units <= 14; units++) {
            ForwardHeap atOnce = Stage.MARKING.make();
            ForwardHeap oneByOne = Stage.MARKING.make();
            atOnce.work(units);
            for (int unit = 0; unit < units; unit++) {
                oneByOne.work(1);
            }
            CHECK.due(units + " at once are as one by one", Aftermath.of(atOnce).equals(Aftermath.of(oneByOne)), true);
        }
        ForwardHeap heap = Stage.ENDED.make();
        CHECK.due("units without a cycle", heap.work(10000), 0);
        CHECK.due("change nothing", Aftermath.of(heap).equals(Aftermath.of(Stage.ENDED.make())), true);
    }

    /** 11: "when n is not 0 .. 10000"; what is outside is in RefusedCallsTest. */
    private static void workFrom0To10000() {
        for (Stage stage : Stage.values()) {
            ForwardHeap heap = stage.make();
            CHECK.due("work(0) in " + stage, heap.work(0), stage.phase);
            CHECK.due("work(0) in " + stage + " changes nothing",
                Aftermath.of(heap).equals(Aftermath.of(stage.make())), true);
            CHECK.due("work(10000) in " + stage, stage.make().work(10000), 0);
        }
    }

    /** 12: "how many regions are free". */
    private static void collectTellsHowManyAreFree() {
        for (int regions = 3; regions <= 16; regions++) {
            ForwardHeap heap = new ForwardHeap(regions, 0);
            CHECK.due("all of " + regions, heap.collect(), regions);
            heap.alloc(0, 0, 1);
            CHECK.due("all but the active one", heap.collect(), regions - 1);
            heap.drop(0);
            CHECK.due("though it has only garbage", heap.collect(), regions - 1);
            Fill.oneRegister(heap, 0, 126);
            Fill.wholeRegions(heap, 0, regions - 1);
            heap.drop(0);
            CHECK.due("all but the active one, behind a full heap", heap.collect(), regions - 1);
            CHECK.due("the last one is active", heap.region(regions - 1, 0), 1);
        }
        ForwardHeap heap = new ForwardHeap(3, 128);
        Fill.wholeRegions(heap, 0, 2);
        CHECK.due("one", heap.collect(), 1);
        Fill.oneRegister(heap, 0, 2);
        CHECK.due("none", heap.collect(), 0);
    }

    /** 13: "how many words from its beginning are in use (or were)". */
    private static void usedWordsAreInUseOrWere() {
        ForwardHeap heap = new ForwardHeap(4, 0);
        CHECK.due("none yet", heap.region(0, 1), 0);
        heap.alloc(0, 0, 1);
        CHECK.due("two", heap.region(0, 1), 2);
        heap.drop(0);
        CHECK.due("two were", heap.region(0, 1), 2);
        Fill.oneRegister(heap, 1, 110);
        CHECK.due("all but 16", heap.region(0, 1), 112);
        heap.alloc(2, 15, 1);
        CHECK.due("closed: those behind never were", heap.region(0, 1), 112);
        Fill.oneRegister(heap, 3, 111);
        CHECK.due("all", heap.region(1, 1), 128);
        heap.begin();
        heap.work(4);
        CHECK.due("in the set", heap.region(0, 0), 4);
        heap.work(1);
        CHECK.due("its one has moved", heap.where(1), 256);
        CHECK.due("in the set they were in use", heap.region(0, 1), 112);
        CHECK.due("in the target", heap.region(2, 1), 22);
        heap.work(10000);
        CHECK.due("free again", heap.region(0, 0), 0);
        CHECK.due("none of it", heap.region(0, 1), 0);
        CHECK.due("the target, closed", heap.region(2, 1), 22);
        CHECK.due("from its beginning", heap.alloc(4, 1, 1), 0);
        CHECK.due("three", heap.region(0, 1), 3);
    }

    /** 13: "0 before any". */
    private static void seenWordsBeforeAnyCycle() {
        ForwardHeap heap = new ForwardHeap(3, 0);
        heap.alloc(0, 3, 1);
        CHECK.due("before any", heap.region(0, 2), 0);
        heap.begin();
        CHECK.due("in the first", heap.region(0, 2), 5);
        heap.work(10000);
        heap.alloc(1, 3, 1);
        CHECK.due("behind it: of the latest", heap.region(0, 2), 5);
        heap.begin();
        CHECK.due("in the second", heap.region(0, 2), 10);
    }

    /** 13: "where an object lies now". */
    private static void seenWordsWhereAnObjectLiesNow() {
        ForwardHeap heap = Stage.MOVING.make();
        CHECK.due("before it moves", heap.region(0, 2), 29);
        CHECK.due("not there yet", heap.region(2, 2), 0);
        heap.work(1);
        CHECK.due("behind it", heap.region(0, 2), 7);
        CHECK.due("there now", heap.region(2, 2), 22);
        heap.work(10000);
        CHECK.due("all are there", heap.region(2, 2), 29);
        CHECK.due("the active one's", heap.region(1, 2), 22);
        ForwardHeap failed = Stage.FAILED.make();
        CHECK.due("one that failed lies where it lay", failed.region(0, 2), 29);
        failed.work(10000);
        CHECK.due("behind the cycle, too", failed.region(0, 2), 29);
    }

    /** 13: "0 of a free one". */
    private static void seenWordsOfAFreeRegion() {
        ForwardHeap heap = Stage.LAST_REGION.make();
        CHECK.due("still in the set", heap.region(0, 0), 4);
        CHECK.due("one never used", heap.region(3, 2), 0);
        heap.work(1);
        CHECK.due("free", heap.region(0, 0), 0);
        CHECK.due("none seen", heap.region(0, 2), 0);
        Fill.oneRegister(heap, 3, 110);
        CHECK.due("in use again", heap.region(0, 0), 1);
        CHECK.due("none seen yet", heap.region(0, 2), 0);
    }

    /** 13: "NONE for other whats". */
    private static void regionOfOtherWhats() {
        for (Stage stage : Stage.values()) {
            ForwardHeap heap = stage.make();
            for (int i = 0; i < 3; i++) {
                CHECK.due("0 is a kind", heap.region(i, 0) >= 0 && heap.region(i, 0) <= 4, true);
                CHECK.due("2 is no more than 1", heap.region(i, 2) >= 0 && heap.region(i, 2) <= heap.region(i, 1), true);
                for (int other : OTHERS) {
                    CHECK.due("region(" + i + ", " + other + ")", heap.region(i, other), NONE);
                }
            }
        }
    }

    /** 14: "NONE for others". */
    private static void countOfOtherWhats() {
        for (Stage stage : Stage.values()) {
            ForwardHeap heap = stage.make();
            CHECK.due("0 counts", heap.count(0) >= 0, true);
            CHECK.due("2 counts", heap.count(2) >= 0, true);
            for (int other : OTHERS) {
                CHECK.due("count(" + other + ")", heap.count(other), NONE);
            }
        }
    }

    /** 14: "wait to be marked". */
    private static void countOfThoseThatWait() {
        ForwardHeap heap = new ForwardHeap(3, 0);
        heap.begin();
        CHECK.due("none in an empty heap", heap.count(2), 0);
        heap.work(10000);
        for (int register = 0; register < 10; register++) {
            heap.alloc(register, 0, 1);
        }
        CHECK.due("none without a cycle", heap.count(2), 0);
        heap.begin();
        for (int left = 10; left > 0; left--) {
            CHECK.due("wait", heap.count(2), left);
            heap.work(1);
        }
        CHECK.due("none more", heap.count(2), 0);
        CHECK.due("still marking", heap.work(0), 1);
        CHECK.due("then it moves", heap.work(1), 2);
        CHECK.due("none waits then", heap.count(2), 0);
    }
}
