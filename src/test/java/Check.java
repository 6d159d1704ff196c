/** Compares answers with those that are due, prints the first wrong ones and ends the program accordingly. */
final class Check {
    private static final int MOST_PRINTED = 100;

    private int wrong;
    private int checked;

    void due(String call, long got, long want) {
        checked++;
        if (got != want) {
            wrong++;
            print(call + " answered " + got + ", due is " + want);
        }
    }

    // A fault early in the model's runs would otherwise print millions of lines.
    private void print(String line) {
        if (wrong <= MOST_PRINTED) {
            System.out.println(line);
        }
    }

    void end() {
        System.out.println(checked + " answers looked at, " + wrong + " not as due");
        if (wrong != 0 || checked == 0) {
            System.exit(1);
        }
    }
}
