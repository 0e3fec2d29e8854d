/** Compares answers with those that are due, prints the wrong ones, and ends the program with 1 if there was one. */
final class Check {
    private int wrong;
    private int asked;
    private String sentence = "";

    /** Names what is tested from here on; it is printed before each wrong answer. */
    void sentence(String words) {
        sentence = words + ": ";
    }

    void due(String call, long got, long want) {
        asked++;
        if (got != want) {
            wrong++;
            System.out.println(sentence + call + " answered " + got + ", due is " + want);
        }
    }

    void isTrue(String what, boolean holds) {
        asked++;
        if (!holds) {
            wrong++;
            System.out.println(sentence + "does not hold: " + what);
        }
    }

    /** Asks that what stands at i of those that LEFT is this frame, by this port, from begin to end. */
    void departure(EthernetGates x, int i, int frame, int port, int begin, int end) {
        due("left(" + i + ", 0)", x.left(i, 0), frame);
        due("left(" + i + ", 1)", x.left(i, 1), port);
        due("left(" + i + ", 2)", x.left(i, 2), begin);
        due("left(" + i + ", 3)", x.left(i, 3), end);
    }

    void end() {
        if (wrong != 0 || asked == 0) {
            System.out.println(wrong + " of " + asked + " answers are not as due");
            System.exit(1);
        }
    }
}
