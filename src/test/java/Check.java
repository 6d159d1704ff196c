/** Compares answers with those that are due, prints the first wrong ones and ends the program accordingly. */
final class Check {
    private static final int MOST_PRINTED = 100;

    private String sentence = "";
    private int wrong;
    private int checked;

    /** The sentence of the document that the answers from here on belong to. */
    void sentence(String text) {
        sentence = "[" + text + "] ";
    }

    void due(String call, long got, long want) {
        checked++;
        if (got != want) {
            wrong++;
            print(sentence + call + " answered " + got + ", due is " + want);
        }
    }

    /** Looks at the first counts of the shelf, in the order of their numbers. */
    void counts(String when, JournalShelf shelf, int... want) {
        for (int what = 0; what < want.length; what++) {
            due(when + ": count(" + what + ")", shelf.count(what), want[what]);
        }
    }

    /** Puts changes of the slots from..from+length-1 into the deed, each to its own number plus add. */
    void changes(JournalShelf shelf, int from, int length, int add) {
        for (int i = 0; i < length; i++) {
            due("change " + (from + i), shelf.change(from + i, from + i + add), i + 1);
        }
    }

    void deed(JournalShelf shelf, int from, int length, int add) {
        changes(shelf, from, length, add);
        due("commit of " + length, shelf.commit(), length);
    }

    // A fault early in the model's runs would otherwise print millions of lines.
    private void print(String line) {
        if (wrong <= MOST_PRINTED) {
            System.out.println(line);
        }
    }

    void end() {
        System.out.println(checked + " answers looked at, " + wrong + " not as due");
        if (wrong != 0 || checked == 0) {
            System.exit(1);
        }
    }
}
