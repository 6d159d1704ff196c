/** Each promise by itself: ordinary inputs, the edges that the document names, and wrong inputs. */
public final class PromisesTest {
    private static final int DEEDS = 0, NEW_DEEDS = 1, BLOCKS = 2, CHANGES = 3, FLUSHES = 4, CRASHES = 5;
    private static final int ALL = -1;

    private static final Check check = new Check();

    public static void main(String[] args) {
        newObject();
        changeCounts();
        changeRefuses();
        changeIsFull();
        changeFlushesByItself();
        changeFlushesOnlyBeforeTheFirst();
        commitTellsValues();
        commitRefuses();
        forgetDropsTheDeed();
        flushWritesEachSlotOnce();
        flushForgetsTheDeed();
        flushMakesSafe();
        crashTakesDeedsBehindTheTornOne();
        crashCountsFlushBlocksFirst();
        crashIgnoresLostFlushBlocks();
        crashMaskWrapsAt31();
        crashIsNoFlush();
        crashDropsTheDeed();
        crashRefuses();
        crashedDeedsStayGone();
        getEdges();
        tornIsAlwaysNone();
        countRefuses();
        objectsAreApart();
        check.end();
    }

    private static void due(String call, long got, long want) {
        check.due(call, got, want);
    }

    private static void counts(String when, JournalShelf shelf, int... want) {
        check.counts(when, shelf, want);
    }

    private static void deed(JournalShelf shelf, int from, int length, int add) {
        check.deed(shelf, from, length, add);
    }

    private static void newObject() {
        JournalShelf shelf = new JournalShelf();
        for (int slot = 0; slot < 212; slot++) {
            due("new: get(" + slot + ")", shelf.get(slot), 0);
        }
        counts("new", shelf, 0, 0, 0, 0, 0, 0);
        due("REFUSED", JournalShelf.REFUSED, -1);
        due("FULL", JournalShelf.FULL, -2);
    }

    private static void changeCounts() {
        JournalShelf shelf = new JournalShelf();
        due("first change", shelf.change(0, 5), 1);
        due("same slot again", shelf.change(0, 6), 2);
        due("last slot", shelf.change(211, 7), 3);
        counts("deed of 3", shelf, 0, 0, 0, 3, 0, 0);
        due("not told before the commit", shelf.get(0), 0);
        due("commit", shelf.commit(), 3);
        due("the last change counts", shelf.get(0), 6);
        due("next deed starts at 1", shelf.change(1, 1), 1);
    }

    private static void changeRefuses() {
        JournalShelf shelf = new JournalShelf();
        int[] wrongSlots = {-1, 212, 213, Integer.MIN_VALUE, Integer.MAX_VALUE};
        deed(shelf, 0, 8, 0);
        for (int slot : wrongSlots) {
            due("change(" + slot + ")", shelf.change(slot, 1), JournalShelf.REFUSED);
        }
        counts("a refused change flushes nothing", shelf, 1, 1, 8, 0, 0, 0);
        due("change", shelf.change(9, 9), 1);
        for (int slot : wrongSlots) {
            due("change(" + slot + ")", shelf.change(slot, 1), JournalShelf.REFUSED);
        }
        counts("a refused change is none", shelf, 1, 0, 8, 1, 1, 0);
    }

    private static void changeIsFull() {
        JournalShelf shelf = new JournalShelf();
        for (int i = 1; i <= 17; i++) {
            due("change " + i, shelf.change(4, i), i);
        }
        due("change 18", shelf.change(4, 18), JournalShelf.FULL);
        due("change 18 of no slot", shelf.change(212, 18), JournalShelf.REFUSED);
        due("count(3)", shelf.count(CHANGES), 17);
        due("commit", shelf.commit(), 17);
        due("get(4)", shelf.get(4), 17);
        due("count(2)", shelf.count(BLOCKS), 17);
    }

    private static void changeFlushesByItself() {
        JournalShelf shelf = new JournalShelf();
        deed(shelf, 0, 7, 100);
        due("change", shelf.change(0, 1), 1);
        due("7 changes: no flush", shelf.count(FLUSHES), 0);
        due("commit", shelf.commit(), 1);
        due("8 changes: no flush before the change", shelf.count(FLUSHES), 0);
        due("change", shelf.change(20, 1), 1);
        counts("8 changes of 7 slots", shelf, 2, 0, 7, 1, 1, 0);
        due("forget", shelf.forget(), 1);
        due("change again", shelf.change(20, 1), 1);
        due("nothing left to flush", shelf.count(FLUSHES), 1);
        due("commit", shelf.commit(), 1);
        due("crash", shelf.crash(0, 0), 1);
        due("get(0)", shelf.get(0), 1);
        due("get(6)", shelf.get(6), 106);
        due("get(20)", shelf.get(20), 0);
    }

    private static void changeFlushesOnlyBeforeTheFirst() {
        JournalShelf shelf = new JournalShelf();
        deed(shelf, 0, 7, 1);
        deed(shelf, 100, 17, 1);
        counts("7 and 17 changes", shelf, 2, 2, 24, 0, 0, 0);
        deed(shelf, 50, 7, 1);
        deed(shelf, 60, 17, 1);
        counts("24 flushed and 24 behind them", shelf, 4, 2, 48, 0, 1, 0);
        due("get(116)", shelf.get(116), 117);
        due("get(76)", shelf.get(76), 77);
    }

    private static void commitTellsValues() {
        JournalShelf shelf = new JournalShelf();
        due("change", shelf.change(3, Integer.MIN_VALUE), 1);
        due("change", shelf.change(4, Integer.MAX_VALUE), 2);
        due("commit", shelf.commit(), 2);
        due("get(3)", shelf.get(3), Integer.MIN_VALUE);
        due("get(4)", shelf.get(4), Integer.MAX_VALUE);
        counts("one deed", shelf, 1, 1, 2, 0, 0, 0);
        deed(shelf, 3, 1, 0);
        due("a later deed's value", shelf.get(3), 3);
        counts("two deeds", shelf, 2, 2, 3, 0, 0, 0);
    }

    private static void commitRefuses() {
        JournalShelf shelf = new JournalShelf();
        due("commit of nothing", shelf.commit(), JournalShelf.REFUSED);
        deed(shelf, 0, 1, 1);
        due("commit again", shelf.commit(), JournalShelf.REFUSED);
        counts("one deed", shelf, 1, 1, 1, 0, 0, 0);
    }

    private static void forgetDropsTheDeed() {
        JournalShelf shelf = new JournalShelf();
        due("forget nothing", shelf.forget(), 0);
        deed(shelf, 5, 2, 1);
        due("change", shelf.change(5, 99), 1);
        due("change", shelf.change(7, 99), 2);
        due("forget", shelf.forget(), 2);
        due("forget again", shelf.forget(), 0);
        due("commit", shelf.commit(), JournalShelf.REFUSED);
        counts("forgotten", shelf, 1, 1, 2, 0, 0, 0);
        due("get(5)", shelf.get(5), 6);
        due("get(7)", shelf.get(7), 0);
        deed(shelf, 7, 1, 1);
        due("crash keeps both", shelf.crash(7, 0), 0);
        due("get(5)", shelf.get(5), 6);
        due("get(7)", shelf.get(7), 8);
    }

    private static void flushWritesEachSlotOnce() {
        JournalShelf shelf = new JournalShelf();
        due("flush of nothing", shelf.flush(), 0);
        counts("flushed nothing", shelf, 0, 0, 0, 0, 1, 0);
        deed(shelf, 0, 3, 0);
        deed(shelf, 2, 3, 0);
        due("flush of two deeds", shelf.flush(), 2);
        counts("5 slots, one of them changed to its own value", shelf, 2, 0, 5, 0, 2, 0);
        due("flush again", shelf.flush(), 0);
        counts("flushed again", shelf, 2, 0, 0, 0, 3, 0);
    }

    private static void flushForgetsTheDeed() {
        JournalShelf shelf = new JournalShelf();
        deed(shelf, 0, 1, 1);
        due("change", shelf.change(1, 9), 1);
        due("flush", shelf.flush(), 1);
        counts("flushed", shelf, 1, 0, 1, 0, 1, 0);
        due("commit", shelf.commit(), JournalShelf.REFUSED);
        due("get(1)", shelf.get(1), 0);
    }

    private static void flushMakesSafe() {
        JournalShelf shelf = new JournalShelf();
        deed(shelf, 0, 3, 10);
        deed(shelf, 1, 3, 20);
        due("flush", shelf.flush(), 2);
        due("crash", shelf.crash(0, 250), 0);
        int[] values = {10, 21, 22, 23, 0};
        for (int slot = 0; slot < values.length; slot++) {
            due("get(" + slot + ")", shelf.get(slot), values[slot]);
        }
        counts("crashed behind a flush", shelf, 2, 0, 0, 0, 1, 1);
    }

    private static void crashTakesDeedsBehindTheTornOne() {
        int[] masks = {0b11111, 0b01111, 0b10111, 0b11011, 0b11101, 0b11110, 0};
        int[] gone = {0, 1, 2, 2, 3, 3, 3};
        for (int i = 0; i < masks.length; i++) {
            JournalShelf shelf = new JournalShelf();
            deed(shelf, 0, 2, 10);
            deed(shelf, 1, 2, 20);
            deed(shelf, 2, 1, 30);
            String when = "mask " + masks[i];
            due(when, shelf.crash(masks[i], 500), gone[i]);
            int there = 3 - gone[i];
            counts(when, shelf, there, 0, 0, 0, 0, 1);
            due(when + ": get(0)", shelf.get(0), there >= 1 ? 10 : 0);
            due(when + ": get(1)", shelf.get(1), new int[] {0, 11, 21, 21}[there]);
            due(when + ": get(2)", shelf.get(2), new int[] {0, 0, 22, 32}[there]);
        }
    }

    private static void crashCountsFlushBlocksFirst() {
        for (int bit = 0; bit < 5; bit++) {
            JournalShelf shelf = new JournalShelf();
            deed(shelf, 0, 3, 1);
            due("flush", shelf.flush(), 1);
            deed(shelf, 10, 1, 1);
            deed(shelf, 11, 1, 1);
            String when = "block " + bit + " torn";
            due(when, shelf.crash(~(1 << bit), 1), new int[] {0, 0, 0, 2, 1}[bit]);
            due(when + ": get(2)", shelf.get(2), 3);
        }
    }

    private static void crashIgnoresLostFlushBlocks() {
        JournalShelf shelf = new JournalShelf();
        deed(shelf, 0, 2, 5);
        due("flush", shelf.flush(), 1);
        deed(shelf, 0, 1, 50);
        due("only the deed's block stands", shelf.crash(0b100, 499), 0);
        due("get(0)", shelf.get(0), 50);
        due("get(1)", shelf.get(1), 6);
    }

    private static void crashMaskWrapsAt31() {
        // Behind 24 blocks of the flush, blocks 24 to 30 are one deed and 31 to 47 the other.
        int[] masks = {ALL, Integer.MAX_VALUE, Integer.MIN_VALUE, ~1, ~(1 << 16), ~(1 << 17), ~(1 << 23), ~(1 << 24), ~(1 << 30)};
        int[] gone = {0, 0, 2, 1, 1, 0, 0, 2, 2};
        for (int i = 0; i < masks.length; i++) {
            JournalShelf shelf = new JournalShelf();
            deed(shelf, 0, 7, 1);
            deed(shelf, 100, 17, 1);
            due("flush", shelf.flush(), 2);
            deed(shelf, 50, 7, 1);
            deed(shelf, 150, 17, 1);
            due("48 blocks, mask " + masks[i], shelf.crash(masks[i], 0), gone[i]);
            due("get(56)", shelf.get(56), gone[i] < 2 ? 57 : 0);
            due("get(166)", shelf.get(166), gone[i] < 1 ? 167 : 0);
            due("get(116)", shelf.get(116), 117);
        }
    }

    private static void crashIsNoFlush() {
        JournalShelf shelf = new JournalShelf();
        deed(shelf, 0, 8, 1);
        due("crash", shelf.crash(ALL, 0), 0);
        counts("crashed", shelf, 1, 0, 0, 0, 0, 1);
        deed(shelf, 20, 2, 1);
        counts("no flush by itself behind a crash", shelf, 2, 1, 2, 0, 0, 1);
        due("flush", shelf.flush(), 1);
        counts("only what is behind the crash is written", shelf, 2, 0, 2, 0, 1, 1);
        due("crash", shelf.crash(0, 0), 0);
        due("flush", shelf.flush(), 0);
        counts("nothing to write behind a crash", shelf, 2, 0, 0, 0, 2, 2);
        due("get(7)", shelf.get(7), 8);
        due("get(21)", shelf.get(21), 22);
    }

    private static void crashDropsTheDeed() {
        JournalShelf shelf = new JournalShelf();
        deed(shelf, 0, 1, 1);
        due("change", shelf.change(1, 1), 1);
        due("crash", shelf.crash(ALL, 0), 0);
        due("count(3)", shelf.count(CHANGES), 0);
        due("commit", shelf.commit(), JournalShelf.REFUSED);
        due("get(0)", shelf.get(0), 1);
        due("get(1)", shelf.get(1), 0);
    }

    private static void crashRefuses() {
        JournalShelf shelf = new JournalShelf();
        deed(shelf, 0, 1, 1);
        due("change", shelf.change(1, 1), 1);
        for (int part : new int[] {-1, 501, Integer.MIN_VALUE, Integer.MAX_VALUE}) {
            due("crash(0, " + part + ")", shelf.crash(0, part), JournalShelf.REFUSED);
        }
        counts("no crash", shelf, 1, 1, 1, 1, 0, 0);
        due("commit", shelf.commit(), 1);
        due("crash(0, 500)", shelf.crash(0, 500), 2);
        due("crash(0, 0)", shelf.crash(0, 0), 0);
        due("count(5)", shelf.count(CRASHES), 2);
    }

    private static void crashedDeedsStayGone() {
        JournalShelf shelf = new JournalShelf();
        deed(shelf, 0, 2, 1);
        deed(shelf, 2, 2, 1);
        due("the first is gone", shelf.crash(0b1101, 0), 2);
        due("crash again", shelf.crash(ALL, 0), 0);
        deed(shelf, 9, 1, 1);
        due("flush", shelf.flush(), 1);
        for (int slot = 0; slot < 4; slot++) {
            due("get(" + slot + ")", shelf.get(slot), 0);
        }
        counts("one deed", shelf, 1, 0, 1, 0, 1, 2);
    }

    private static void getEdges() {
        JournalShelf shelf = new JournalShelf();
        deed(shelf, 0, 1, 3);
        deed(shelf, 211, 1, 3);
        due("get(0)", shelf.get(0), 3);
        due("get(211)", shelf.get(211), 214);
        for (int slot : new int[] {-1, 212, Integer.MIN_VALUE, Integer.MAX_VALUE}) {
            due("get(" + slot + ")", shelf.get(slot), 0);
        }
        due("change(211, 0)", shelf.change(211, 0), 1);
        due("commit", shelf.commit(), 1);
        due("back to 0", shelf.get(211), 0);
    }

    private static void tornIsAlwaysNone() {
        JournalShelf shelf = new JournalShelf();
        due("torn, new", shelf.torn(), 0);
        deed(shelf, 0, 9, 1);
        due("torn, committed", shelf.torn(), 0);
        due("flush", shelf.flush(), 1);
        due("torn, flushed", shelf.torn(), 0);
        due("crash", shelf.crash(0, 250), 0);
        due("torn, crashed in the flush's blocks", shelf.torn(), 0);
        deed(shelf, 0, 9, 5);
        due("crash", shelf.crash(0, 1), 1);
        due("torn, crashed in the deed's blocks", shelf.torn(), 0);
    }

    private static void countRefuses() {
        JournalShelf shelf = new JournalShelf();
        for (int what : new int[] {-1, 6, Integer.MIN_VALUE, Integer.MAX_VALUE}) {
            due("count(" + what + ")", shelf.count(what), JournalShelf.REFUSED);
        }
        deed(shelf, 0, 2, 1);
        due("flush", shelf.flush(), 1);
        deed(shelf, 0, 3, 1);
        due("change", shelf.change(0, 0), 1);
        due("count(0)", shelf.count(DEEDS), 2);
        due("count(1)", shelf.count(NEW_DEEDS), 1);
        due("count(2)", shelf.count(BLOCKS), 5);
        due("count(3)", shelf.count(CHANGES), 1);
        due("count(4)", shelf.count(FLUSHES), 1);
        due("count(5)", shelf.count(CRASHES), 0);
    }

    private static void objectsAreApart() {
        JournalShelf one = new JournalShelf();
        JournalShelf other = new JournalShelf();
        deed(one, 0, 3, 1);
        due("flush", one.flush(), 1);
        due("get(0) of the other", other.get(0), 0);
        counts("the other", other, 0, 0, 0, 0, 0, 0);
    }
}
