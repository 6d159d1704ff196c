/** One test for each sentence of "What it is" and "Terms" that names a boundary case. */
public final class TermsBoundaryTest {
    private static final int ALL = -1;
    // The most blocks that can be written since one flush: 24 of its own and 24 of deeds.
    private static final int MOST_BLOCKS = 48;

    private static final Check check = new Check();

    public static void main(String[] args) {
        callsOfOneObject();
        slotsFirstAndLast();
        valuesAreInts();
        valuesAreZeroAtFirst();
        deedOfOneChange();
        deedOfSeventeenChanges();
        sameSlotTheLastCounts();
        sameSlotEachIsABlock();
        valuesAreToldFromTheCommitOn();
        blocksStandWhenFlushed();
        commitWritesOneBlockForEachChange();
        commitWritesBlocksInTheirOrder();
        flushWritesNothingForNothing();
        flushWritesOneForEachSlot();
        flushWritesOnlySlotsOfDeedsSinceTheOneBefore();
        flushLeavesOutSlotsOfNoDeed();
        flushBlocksStandWithTheNext();
        flushByItselfFromEightChanges();
        flushByItselfCountsAllDeedsTogether();
        flushByItselfCountsChangesNotSlots();
        flushByItselfCountsNoOtherBlocks();
        flushByItselfCountsNoForgottenChanges();
        flushByItselfOnlyBeforeTheFirstChange();
        flushByItselfOnlySinceTheLatest();
        flushByItselfIsAFlush();
        crashCountsFlushBlocksFirst();
        crashBlockZeroIsTheFirst();
        crashWrapsAtBlock31();
        crashOfEachOfTheMostBlocks();
        crashLeavesOutBit31();
        crashTornBlockIsWorthNothing();
        crashOfTheDeedThatIsPutTogether();
        crashKeepsDeedsBeforeTheFlush();
        crashKeepsDeedsWhoseBlocksAllStand();
        crashTakesAllBehindTheFirstGone();
        crashTellsValuesOfDeedsThatAreThere();
        crashGoesOnAsBehindAFlush();
        crashThenNoFlushByItself();
        check.end();
    }

    private static void due(String call, long got, long want) {
        check.due(call, got, want);
    }

    private static void counts(String when, JournalShelf shelf, int... want) {
        check.counts(when, shelf, want);
    }

    private static void deed(JournalShelf shelf, int from, int length, int add) {
        check.deed(shelf, from, length, add);
    }

    private static void changeOfSame(JournalShelf shelf, int slot, int times) {
        for (int i = 1; i <= times; i++) {
            due("change " + i + " of slot " + slot, shelf.change(slot, i), i);
        }
    }

    private static void flush(JournalShelf shelf, int deeds) {
        due("flush", shelf.flush(), deeds);
    }

    /** A shelf with 48 blocks: 24 of the flush, a deed of 7 in blocks 24 to 30, one of 17 in 31 to 47. */
    private static JournalShelf shelfWithMostBlocks() {
        JournalShelf shelf = new JournalShelf();
        deed(shelf, 0, 7, 1);
        deed(shelf, 100, 17, 1);
        flush(shelf, 2);
        deed(shelf, 50, 7, 1);
        deed(shelf, 150, 17, 1);
        due("blocks", shelf.count(2), MOST_BLOCKS);
        return shelf;
    }

    private static void callsOfOneObject() {
        check.sentence("An object is used for at most 512 calls");
        JournalShelf changed = new JournalShelf();
        for (int i = 0; i < 255; i++) {
            due("change " + i, changed.change(i % 212, i + 1), 1);
            due("commit " + i, changed.commit(), 1);
        }
        due("call 511: deeds", changed.count(0), 255);
        due("call 512: value", changed.get(254 - 212), 255);
        JournalShelf flushed = new JournalShelf();
        JournalShelf crashed = new JournalShelf();
        for (int i = 0; i < 511; i++) {
            flush(flushed, 0);
            due("crash " + i, crashed.crash(i, 0), 0);
        }
        due("call 512: flushes", flushed.count(4), 511);
        due("call 512: crashes", crashed.count(5), 511);
    }

    private static void slotsFirstAndLast() {
        check.sentence("SLOTS 0 to 211");
        JournalShelf shelf = new JournalShelf();
        due("change(-1)", shelf.change(-1, 9), JournalShelf.REFUSED);
        due("change(0)", shelf.change(0, 10), 1);
        due("change(211)", shelf.change(211, 11), 2);
        due("change(212)", shelf.change(212, 12), JournalShelf.REFUSED);
        due("commit", shelf.commit(), 2);
        due("get(-1)", shelf.get(-1), 0);
        due("get(0)", shelf.get(0), 10);
        due("get(1)", shelf.get(1), 0);
        due("get(210)", shelf.get(210), 0);
        due("get(211)", shelf.get(211), 11);
        due("get(212)", shelf.get(212), 0);
    }

    private static void valuesAreInts() {
        check.sentence("a VALUE (an int)");
        int[] values = {Integer.MIN_VALUE, Integer.MAX_VALUE, -1, -2, 0, 1 << 16, 255};
        JournalShelf shelf = new JournalShelf();
        for (int slot = 0; slot < values.length; slot++) {
            due("change", shelf.change(slot, values[slot]), slot + 1);
        }
        due("commit", shelf.commit(), values.length);
        for (int slot = 0; slot < values.length; slot++) {
            due("committed: get(" + slot + ")", shelf.get(slot), values[slot]);
        }
        flush(shelf, 1);
        for (int slot = 0; slot < values.length; slot++) {
            due("flushed: get(" + slot + ")", shelf.get(slot), values[slot]);
        }
    }

    private static void valuesAreZeroAtFirst() {
        check.sentence("0 at first");
        JournalShelf shelf = new JournalShelf();
        for (int slot = 0; slot < 212; slot++) {
            due("get(" + slot + ")", shelf.get(slot), 0);
        }
    }

    private static void deedOfOneChange() {
        check.sentence("A DEED has 1 to 17 CHANGES: 1, not 0");
        JournalShelf shelf = new JournalShelf();
        due("commit of 0", shelf.commit(), JournalShelf.REFUSED);
        due("no deed", shelf.count(0), 0);
        due("change", shelf.change(0, 1), 1);
        due("commit of 1", shelf.commit(), 1);
        due("one deed", shelf.count(0), 1);
    }

    private static void deedOfSeventeenChanges() {
        check.sentence("A DEED has 1 to 17 CHANGES: 17, not 18");
        JournalShelf shelf = new JournalShelf();
        check.changes(shelf, 0, 17, 1);
        due("change 18", shelf.change(17, 18), JournalShelf.FULL);
        due("commit", shelf.commit(), 17);
        due("get of the 17th", shelf.get(16), 17);
        due("get of the 18th", shelf.get(17), 0);
        due("one deed", shelf.count(0), 1);
    }

    private static void sameSlotTheLastCounts() {
        check.sentence("of the same SLOT the last one counts");
        JournalShelf shelf = new JournalShelf();
        due("change(5, 1)", shelf.change(5, 1), 1);
        due("change(6, 2)", shelf.change(6, 2), 2);
        due("change(5, 0)", shelf.change(5, 0), 3);
        due("change(6, 9)", shelf.change(6, 9), 4);
        due("commit", shelf.commit(), 4);
        due("committed: get(5)", shelf.get(5), 0);
        due("committed: get(6)", shelf.get(6), 9);
        flush(shelf, 1);
        due("flushed: get(5)", shelf.get(5), 0);
        due("flushed: get(6)", shelf.get(6), 9);
    }

    private static void sameSlotEachIsABlock() {
        check.sentence("though each is a CHANGE and a BLOCK");
        JournalShelf shelf = new JournalShelf();
        changeOfSame(shelf, 211, 17);
        due("change 18 of the same slot", shelf.change(211, 18), JournalShelf.FULL);
        due("commit", shelf.commit(), 17);
        due("blocks", shelf.count(2), 17);
        due("crash that tears the first of them", shelf.crash(~1, 0), 1);
        due("get(211)", shelf.get(211), 0);
    }

    private static void valuesAreToldFromTheCommitOn() {
        check.sentence("COMMITTED: from then on its VALUES are told");
        JournalShelf shelf = new JournalShelf();
        deed(shelf, 0, 1, 7);
        due("change", shelf.change(0, 8), 1);
        due("before the commit", shelf.get(0), 7);
        due("commit", shelf.commit(), 1);
        due("behind the commit", shelf.get(0), 8);
    }

    private static void blocksStandWhenFlushed() {
        check.sentence("they stand there for good when it is FLUSHED");
        JournalShelf shelf = new JournalShelf();
        deed(shelf, 0, 17, 1);
        flush(shelf, 1);
        for (int i = 0; i < 3; i++) {
            due("crash", shelf.crash(0, 500), 0);
        }
        for (int slot = 0; slot < 17; slot++) {
            due("get(" + slot + ")", shelf.get(slot), slot + 1);
        }
        due("deeds", shelf.count(0), 1);
    }

    private static void commitWritesOneBlockForEachChange() {
        check.sentence("A COMMIT writes one BLOCK for each CHANGE");
        for (int length = 1; length <= 17; length++) {
            JournalShelf shelf = new JournalShelf();
            check.changes(shelf, 0, length, 1);
            due("blocks before the commit", shelf.count(2), 0);
            due("commit", shelf.commit(), length);
            due("blocks", shelf.count(2), length);
        }
    }

    private static void commitWritesBlocksInTheirOrder() {
        check.sentence("one BLOCK for each CHANGE of the DEED, in their order");
        JournalShelf shelf = new JournalShelf();
        deed(shelf, 9, 1, 1);
        deed(shelf, 4, 3, 1);
        deed(shelf, 0, 2, 1);
        due("blocks 0 to 3 stand", shelf.crash(0b1111, 0), 1);
        due("get(9)", shelf.get(9), 10);
        due("get(6)", shelf.get(6), 7);
        due("get(0)", shelf.get(0), 0);
    }

    private static void flushWritesNothingForNothing() {
        check.sentence("A FLUSH writes one more for each SLOT changed: none");
        JournalShelf shelf = new JournalShelf();
        flush(shelf, 0);
        counts("flushed nothing", shelf, 0, 0, 0, 0, 1, 0);
        deed(shelf, 0, 1, 1);
        due("the deed's block is the first", shelf.crash(1, 0), 0);
        due("get(0)", shelf.get(0), 1);
    }

    private static void flushWritesOneForEachSlot() {
        check.sentence("one more for each SLOT");
        JournalShelf one = new JournalShelf();
        changeOfSame(one, 3, 7);
        due("commit", one.commit(), 7);
        changeOfSame(one, 3, 17);
        due("commit", one.commit(), 17);
        flush(one, 2);
        due("24 changes of one slot", one.count(2), 1);
        JournalShelf most = new JournalShelf();
        deed(most, 0, 7, 1);
        deed(most, 195, 17, 1);
        flush(most, 2);
        due("24 slots", most.count(2), 24);
        JournalShelf same = new JournalShelf();
        deed(same, 0, 1, 0);
        flush(same, 1);
        due("a slot changed to the value it has", same.count(2), 1);
    }

    private static void flushWritesOnlySlotsOfDeedsSinceTheOneBefore() {
        check.sentence("that DEEDS committed since the FLUSH before have changed");
        JournalShelf shelf = new JournalShelf();
        deed(shelf, 0, 6, 1);
        flush(shelf, 1);
        due("6 slots", shelf.count(2), 6);
        deed(shelf, 5, 2, 9);
        flush(shelf, 1);
        due("2 slots, one of them flushed before", shelf.count(2), 2);
        flush(shelf, 0);
        due("no slot", shelf.count(2), 0);
    }

    private static void flushLeavesOutSlotsOfNoDeed() {
        check.sentence("that DEEDS committed have changed: no others");
        JournalShelf shelf = new JournalShelf();
        deed(shelf, 0, 2, 1);
        check.changes(shelf, 10, 3, 1);
        due("forget", shelf.forget(), 3);
        check.changes(shelf, 20, 4, 1);
        flush(shelf, 1);
        due("neither forgotten nor uncommitted slots", shelf.count(2), 2);
        deed(shelf, 30, 2, 1);
        due("a deed is lost", shelf.crash(0, 0), 1);
        flush(shelf, 0);
        due("no lost slots", shelf.count(2), 0);
    }

    private static void flushBlocksStandWithTheNext() {
        check.sentence("these stand with the next FLUSH");
        JournalShelf shelf = new JournalShelf();
        deed(shelf, 0, 3, 1);
        flush(shelf, 1);
        due("written, not yet standing", shelf.count(2), 3);
        deed(shelf, 10, 1, 1);
        due("before the deed's block", shelf.count(2), 4);
        flush(shelf, 1);
        due("standing, and one written", shelf.count(2), 1);
        deed(shelf, 20, 1, 1);
        due("the deed is block 1", shelf.crash(0b10, 0), 0);
        due("get(20)", shelf.get(20), 21);
    }

    private static void flushByItselfFromEightChanges() {
        check.sentence("a FLUSH by itself if more than 7 CHANGES");
        for (int length = 1; length <= 17; length++) {
            JournalShelf shelf = new JournalShelf();
            deed(shelf, 0, length, 1);
            due("no flush at the commit", shelf.count(4), 0);
            due("change", shelf.change(100, 1), 1);
            int flushes = length > 7 ? 1 : 0;
            counts("behind " + length, shelf, 1, 1 - flushes, length, 1, flushes, 0);
        }
    }

    private static void flushByItselfCountsAllDeedsTogether() {
        check.sentence("more than 7 CHANGES together");
        JournalShelf shelf = new JournalShelf();
        for (int i = 0; i < 8; i++) {
            deed(shelf, i, 1, 1);
            due("no flush behind deed " + i, shelf.count(4), 0);
        }
        due("change", shelf.change(8, 9), 1);
        counts("8 deeds of 1", shelf, 8, 0, 8, 1, 1, 0);
    }

    private static void flushByItselfCountsChangesNotSlots() {
        check.sentence("more than 7 CHANGES: of one SLOT");
        JournalShelf shelf = new JournalShelf();
        changeOfSame(shelf, 0, 8);
        due("commit", shelf.commit(), 8);
        due("change", shelf.change(0, 1), 1);
        counts("8 changes of one slot", shelf, 1, 0, 1, 1, 1, 0);
    }

    private static void flushByItselfCountsNoOtherBlocks() {
        check.sentence("the DEEDS committed since the latest FLUSH have: not its own BLOCKS");
        JournalShelf shelf = new JournalShelf();
        deed(shelf, 0, 17, 1);
        flush(shelf, 1);
        due("change", shelf.change(0, 5), 1);
        due("17 blocks of the flush", shelf.count(4), 1);
        due("forget", shelf.forget(), 1);
        deed(shelf, 0, 7, 2);
        due("change", shelf.change(0, 5), 1);
        due("17 blocks of the flush and 7 of a deed", shelf.count(4), 1);
    }

    private static void flushByItselfCountsNoForgottenChanges() {
        check.sentence("the DEEDS committed have: not the forgotten");
        JournalShelf shelf = new JournalShelf();
        deed(shelf, 0, 7, 1);
        check.changes(shelf, 20, 17, 1);
        due("forget", shelf.forget(), 17);
        due("change", shelf.change(0, 1), 1);
        counts("7 committed and 17 forgotten", shelf, 1, 1, 7, 1, 0, 0);
    }

    private static void flushByItselfOnlyBeforeTheFirstChange() {
        check.sentence("Before the first CHANGE of a DEED");
        JournalShelf shelf = new JournalShelf();
        deed(shelf, 0, 7, 1);
        for (int i = 1; i <= 17; i++) {
            due("change " + i, shelf.change(20 + i, i), i);
            due("no flush behind change " + i, shelf.count(4), 0);
        }
        due("commit", shelf.commit(), 17);
        due("no flush behind the commit", shelf.count(4), 0);
        due("change", shelf.change(0, 9), 1);
        due("a flush before the next deed's first", shelf.count(4), 1);
        due("change", shelf.change(0, 9), 2);
        due("none before its second", shelf.count(4), 1);
    }

    private static void flushByItselfOnlySinceTheLatest() {
        check.sentence("committed since the latest FLUSH have more than 7");
        JournalShelf shelf = new JournalShelf();
        deed(shelf, 0, 7, 1);
        flush(shelf, 1);
        deed(shelf, 10, 7, 1);
        due("change", shelf.change(0, 1), 1);
        due("7 before and 7 behind the flush", shelf.count(4), 1);
        due("forget", shelf.forget(), 1);
        deed(shelf, 20, 1, 1);
        due("change", shelf.change(0, 1), 1);
        due("8 behind it", shelf.count(4), 2);
        due("forget", shelf.forget(), 1);
        due("change", shelf.change(0, 1), 1);
        due("none behind the flush by itself", shelf.count(4), 2);
    }

    private static void flushByItselfIsAFlush() {
        check.sentence("there is a FLUSH by itself: a FLUSH like any other");
        JournalShelf shelf = new JournalShelf();
        deed(shelf, 0, 4, 1);
        deed(shelf, 2, 4, 9);
        due("change", shelf.change(100, 1), 1);
        counts("6 slots are written", shelf, 2, 0, 6, 1, 1, 0);
        due("commit", shelf.commit(), 1);
        due("the deed is block 6", shelf.crash(~(1 << 6), 0), 1);
        int[] values = {1, 2, 11, 12, 13, 14};
        for (int slot = 0; slot < values.length; slot++) {
            due("get(" + slot + ")", shelf.get(slot), values[slot]);
        }
    }

    private static void crashCountsFlushBlocksFirst() {
        check.sentence("those that the FLUSH itself has written then are the first of them");
        int[] gone = {0, 0, 0, 3, 2, 2, 1};
        for (int bit = 0; bit < gone.length; bit++) {
            JournalShelf shelf = new JournalShelf();
            deed(shelf, 0, 3, 1);
            flush(shelf, 1);
            deed(shelf, 10, 1, 1);
            deed(shelf, 11, 2, 1);
            deed(shelf, 13, 1, 1);
            due("only block " + bit + " lost", shelf.crash(~(1 << bit), 1), gone[bit]);
        }
    }

    private static void crashBlockZeroIsTheFirst() {
        check.sentence("the k-th, 0 the first");
        JournalShelf kept = new JournalShelf();
        deed(kept, 0, 1, 1);
        due("bit 0 set", kept.crash(1, 0), 0);
        JournalShelf lost = new JournalShelf();
        deed(lost, 0, 1, 1);
        due("bit 0 not set", lost.crash(~1, 0), 1);
    }

    private static void crashWrapsAtBlock31() {
        check.sentence("stands if bit k % 31 of a mask is set");
        due("bits 24 to 30", shelfWithMostBlocks().crash(0x7f000000, 0), 1);
        due("bits 24 to 30 and 0 to 16", shelfWithMostBlocks().crash(0x7f01ffff, 0), 0);
        due("all but 0, which is block 31, too", shelfWithMostBlocks().crash(~1, 0), 1);
        due("all but 30", shelfWithMostBlocks().crash(~(1 << 30), 0), 2);
    }

    private static void crashOfEachOfTheMostBlocks() {
        check.sentence("bit k % 31, each k");
        for (int bit = 0; bit < 31; bit++) {
            JournalShelf shelf = shelfWithMostBlocks();
            int gone = bit >= 24 ? 2 : bit <= 16 ? 1 : 0;
            due("all but bit " + bit, shelf.crash(~(1 << bit), 0), gone);
            due("get(56)", shelf.get(56), gone < 2 ? 57 : 0);
            due("get(166)", shelf.get(166), gone < 1 ? 167 : 0);
        }
    }

    private static void crashLeavesOutBit31() {
        check.sentence("bit k % 31: bit 31 is no block's");
        due("bits 0 to 30", shelfWithMostBlocks().crash(Integer.MAX_VALUE, 0), 0);
        due("bit 31 alone", shelfWithMostBlocks().crash(Integer.MIN_VALUE, 0), 2);
        due("all bits", shelfWithMostBlocks().crash(ALL, 0), 0);
        due("no bits", shelfWithMostBlocks().crash(0, 0), 2);
    }

    private static void crashTornBlockIsWorthNothing() {
        check.sentence("stands in part, which is worth nothing");
        for (int part : new int[] {0, 1, 4, 8, 250, 499, 500}) {
            JournalShelf shelf = new JournalShelf();
            deed(shelf, 0, 1, 1);
            flush(shelf, 1);
            deed(shelf, 0, 2, 5);
            due("the deed's last block torn, part " + part, shelf.crash(0b011, part), 1);
            due("get(0)", shelf.get(0), 1);
            due("get(1)", shelf.get(1), 0);
            due("torn", shelf.torn(), 0);
            deed(shelf, 0, 1, 9);
            flush(shelf, 1);
            due("the flush's block torn, part " + part, shelf.crash(0, part), 0);
            due("get(0)", shelf.get(0), 9);
            due("torn", shelf.torn(), 0);
            deed(shelf, 0, 1, 11);
            due("no block torn, part " + part, shelf.crash(1, part), 0);
            due("get(0)", shelf.get(0), 11);
        }
    }

    private static void crashOfTheDeedThatIsPutTogether() {
        check.sentence("The DEED that is put together is gone");
        for (int length = 1; length <= 17; length += 16) {
            JournalShelf shelf = new JournalShelf();
            check.changes(shelf, 0, length, 1);
            due("no committed deed is gone", shelf.crash(ALL, 0), 0);
            counts("crashed", shelf, 0, 0, 0, 0, 0, 1);
            due("nothing to commit", shelf.commit(), JournalShelf.REFUSED);
            due("get(0)", shelf.get(0), 0);
            due("the next deed's first change", shelf.change(1, 1), 1);
        }
    }

    private static void crashKeepsDeedsBeforeTheFlush() {
        check.sentence("the DEEDS committed before the latest FLUSH are there");
        JournalShelf shelf = new JournalShelf();
        deed(shelf, 0, 2, 1);
        deed(shelf, 1, 2, 5);
        flush(shelf, 2);
        deed(shelf, 1, 2, 50);
        due("no block stands", shelf.crash(0, 0), 1);
        due("deeds", shelf.count(0), 2);
        int[] values = {1, 6, 7};
        for (int slot = 0; slot < values.length; slot++) {
            due("get(" + slot + ")", shelf.get(slot), values[slot]);
        }
    }

    private static void crashKeepsDeedsWhoseBlocksAllStand() {
        check.sentence("each as long as all its BLOCKS stand");
        for (int lost = 0; lost < 17; lost++) {
            JournalShelf shelf = new JournalShelf();
            deed(shelf, 40, 1, 1);
            deed(shelf, 0, 16, 1);
            String when = "block " + lost + " of 17 lost";
            due(when, shelf.crash(~(1 << lost), 0), lost == 0 ? 2 : 1);
            due(when + ": get(40)", shelf.get(40), lost == 0 ? 0 : 41);
            for (int slot = 0; slot < 16; slot++) {
                due(when + ": get(" + slot + ")", shelf.get(slot), 0);
            }
        }
    }

    private static void crashTakesAllBehindTheFirstGone() {
        check.sentence("and all DEEDS before it are there; the others are gone");
        for (int lost = 0; lost <= 8; lost++) {
            JournalShelf shelf = new JournalShelf();
            for (int i = 0; i < 8; i++) {
                deed(shelf, i, 1, 1);
            }
            String when = "only block " + lost + " lost";
            due(when, shelf.crash(~(1 << lost), 0), 8 - lost);
            due(when + ": deeds", shelf.count(0), lost);
            for (int slot = 0; slot < 8; slot++) {
                due(when + ": get(" + slot + ")", shelf.get(slot), slot < lost ? slot + 1 : 0);
            }
        }
    }

    private static void crashTellsValuesOfDeedsThatAreThere() {
        check.sentence("the VALUES are those of the DEEDS that are there");
        int[] values = {10, 20, 30, 40};
        for (int stand = 0; stand <= 3; stand++) {
            JournalShelf shelf = new JournalShelf();
            deed(shelf, 0, 1, values[0]);
            flush(shelf, 1);
            for (int i = 1; i <= 3; i++) {
                deed(shelf, 0, 1, values[i]);
            }
            due(stand + " stand", shelf.crash((2 << stand) - 1, 0), 3 - stand);
            due(stand + " stand: get(0)", shelf.get(0), values[stand]);
        }
    }

    private static void crashGoesOnAsBehindAFlush() {
        check.sentence("It goes on from this as behind a FLUSH that has nothing left to write");
        JournalShelf shelf = new JournalShelf();
        deed(shelf, 0, 2, 1);
        flush(shelf, 1);
        deed(shelf, 2, 3, 1);
        due("crash that keeps all", shelf.crash(ALL, 0), 0);
        counts("crashed", shelf, 2, 0, 0, 0, 1, 1);
        due("a crash behind it loses nothing", shelf.crash(0, 0), 0);
        due("get(4)", shelf.get(4), 5);
        deed(shelf, 5, 1, 1);
        due("the next deed's block is the first", shelf.crash(1, 0), 0);
        due("get(5)", shelf.get(5), 6);
        flush(shelf, 0);
        counts("nothing left to write", shelf, 3, 0, 0, 0, 2, 3);
    }

    private static void crashThenNoFlushByItself() {
        check.sentence("as behind a FLUSH: no FLUSH by itself");
        JournalShelf shelf = new JournalShelf();
        deed(shelf, 0, 17, 1);
        due("crash that keeps all", shelf.crash(ALL, 0), 0);
        deed(shelf, 20, 7, 1);
        due("change", shelf.change(0, 0), 1);
        due("17 before the crash and 7 behind it", shelf.count(4), 0);
        due("forget", shelf.forget(), 1);
        deed(shelf, 30, 1, 1);
        due("change", shelf.change(0, 0), 1);
        counts("8 behind it", shelf, 3, 0, 8, 1, 1, 1);
    }
}
