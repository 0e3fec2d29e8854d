/** The boundaries of WHERE A FRAME GOES, each with a test of its own. */
public final class TermWhereTest {
    public static void main(String[] args) {
        Check c = new Check();
        lastTickOfAnAge(c);
        notForTheTick3000Later(c);
        ageIsFromTheTimeOfLearning(c);
        tooOldWhenLearned(c);
        sinceItWasLearnedLast(c);
        movesToAnotherPort(c);
        forEverIfFixed(c);
        fixedAfterItWasLearned(c);
        toThatPortAlone(c);
        toNoPortIfTheSame(c);
        toNoPortWithoutLink(c);
        toNoPortAfterALostLink(c);
        toAllOthersWithALink(c);
        noOtherWithALink(c);
        roomForSixteen(c);
        roomOfEachRankAndPort(c);
        roomAfterOneBegan(c);
        droppedThereAlone(c);
        ringOfAQueue(c);
        c.end();
    }

    /** Frame to this address by port 1, then asks which of the ports 2 and 3 had a copy of it. */
    private static void goes(Gates x, int address, int toTwo, int toThree) {
        x.frame(1, address, 0, 64);
        x.link(2, 0).is(toTwo);
        x.link(3, 0).is(toThree);
        x.link(2, 100);
        x.link(3, 100);
    }

    private static void lastTickOfAnAge(Check c) {
        c.sentence("an address is at a port for 3000 ticks");
        Gates x = Gates.linked(c, 3, 100);
        x.learn(1, 2, 0).is(0);
        x.learn(2, 2, 0).is(0);
        x.pass(2999);
        goes(x, 1, 1, 0);
        x.learn(1, 3, 2999).is(2);
        x.run(1);
        x.learn(2, 3, 3000).is(0);
    }

    private static void notForTheTick3000Later(Check c) {
        c.sentence("(not for the tick 3000 later)");
        Gates x = Gates.linked(c, 3, 100);
        x.run(7);
        x.learn(1, 2, 7).is(0);
        x.pass(2999);
        goes(x, 1, 1, 0);
        x.run(1);
        goes(x, 1, 1, 1);
        x.learn(1, 2, 3007).is(0);
        goes(x, 1, 1, 0);
    }

    private static void ageIsFromTheTimeOfLearning(Check c) {
        c.sentence("since it was learned there, not since the call");
        Gates x = Gates.linked(c, 3, 100);
        x.run(1000);
        x.learn(1, 3, 400).is(0);
        x.pass(2399);
        goes(x, 1, 0, 1);
        x.run(1);
        goes(x, 1, 1, 1);
    }

    private static void tooOldWhenLearned(Check c) {
        c.sentence("learned 3000 ticks ago it is nowhere, 2999 ago it is there");
        Gates x = Gates.linked(c, 3, 100);
        x.pass(3000);
        x.learn(1, 2, 0).is(0);
        x.learn(1, 2, 0).is(0);
        goes(x, 1, 1, 1);
        x.learn(1, 2, 1).is(0);
        x.learn(1, 2, 1).is(2);
        goes(x, 1, 1, 0);
    }

    private static void sinceItWasLearnedLast(Check c) {
        c.sentence("since it was learned there last");
        Gates x = Gates.linked(c, 3, 100);
        x.learn(1, 2, 0).is(0);
        x.run(2000);
        x.learn(1, 2, 2000).is(2);
        x.pass(2999);
        goes(x, 1, 1, 0);
        x.run(1);
        goes(x, 1, 1, 1);
    }

    private static void movesToAnotherPort(Check c) {
        c.sentence("learned at another port it is there alone");
        Gates x = Gates.linked(c, 3, 100);
        x.learn(1, 2, 0).is(0);
        goes(x, 1, 1, 0);
        x.learn(1, 3, 0).is(2);
        goes(x, 1, 0, 1);
        x.learn(1, 3, 0).is(3);
    }

    private static void forEverIfFixed(Check c) {
        c.sentence("or for ever, if that was fixed");
        Gates x = Gates.linked(c, 3, 100);
        x.learn(1, 3, -1).is(0);
        x.pass(2999);
        goes(x, 1, 0, 1);
        x.run(1);
        goes(x, 1, 0, 1);
        x.pass(800000);
        goes(x, 1, 0, 1);
        x.learn(1, 2, 800000).is(-3);
        x.learn(1, 2, -1).is(3);
        goes(x, 1, 1, 0);
    }

    private static void fixedAfterItWasLearned(Check c) {
        c.sentence("fixed after it was learned, it grows no older");
        Gates x = Gates.linked(c, 3, 100);
        x.learn(1, 2, 0).is(0);
        x.run(10);
        x.learn(1, 2, -1).is(2);
        x.pass(2990);
        goes(x, 1, 1, 0);
        x.learn(1, 3, -1).is(2);
        goes(x, 1, 0, 1);
    }

    private static void toThatPortAlone(Check c) {
        c.sentence("a frame goes to that port, if it has a LINK and is another one");
        Gates x = Gates.linked(c, 4, 672);
        x.learn(1, 3, 0);
        x.frame(1, 1, 0, 64).is(1);
        x.frame(4, 1, 0, 64).is(2);
        x.run(10).is(2);
        x.departed(0, 1, 3, 0, 1);
        x.departed(1, 2, 3, 1, 2);
        x.drops(0, 0, 0, 0);
    }

    private static void toNoPortIfTheSame(Check c) {
        c.sentence("to no port if it is the same one");
        Gates x = Gates.linked(c, 3, 672);
        x.learn(1, 2, 0);
        x.learn(2, 3, -1);
        x.frame(2, 1, 0, 64).is(0);
        x.drops(0, 0, 1, 0);
        x.frame(3, 2, 0, 64).is(0);
        x.drops(0, 0, 2, 0);
        x.run(10).is(0);
        x.frame(3, 1, 0, 64).is(3);
    }

    private static void toNoPortWithoutLink(Check c) {
        c.sentence("to no port if it is without a LINK");
        Gates x = Gates.linked(c, 3, 672);
        x.link(2, 0);
        x.learn(1, 2, 0);
        x.learn(2, 2, -1);
        x.frame(1, 1, 0, 64).is(0);
        x.drops(0, 0, 1, 0);
        x.frame(1, 2, 0, 64).is(0);
        x.drops(0, 0, 2, 0);
        x.run(10).is(0);
        x.link(2, 672);
        x.frame(1, 1, 0, 64).is(3);
        x.run(10).is(1);
        x.departed(0, 3, 2, 10, 11);
    }

    private static void toNoPortAfterALostLink(Check c) {
        c.sentence("an address stays at a port that lost its LINK");
        Gates x = Gates.linked(c, 3, 672);
        x.learn(1, 2, 0);
        x.frame(1, 1, 0, 64).is(1);
        x.link(2, 0).is(1);
        x.frame(1, 1, 0, 64).is(0);
        x.drops(0, 0, 1, 1);
        x.learn(1, 2, 0).is(2);
    }

    private static void toAllOthersWithALink(Check c) {
        c.sentence("for an address that is nowhere, to all other ports with a LINK (a copy each)");
        Gates x = Gates.linked(c, 16, 672);
        x.link(7, 0);
        x.frame(4, 1, 0, 64).is(1);
        x.run(2).is(14);
        x.left(-1, 0).is(14);
        int i = 0;
        for (int port = 1; port <= 16; port++) {
            if (port != 4 && port != 7) {
                x.departed(i, 1, port, 0, 1);
                i++;
            }
        }
        x.drops(0, 0, 0, 0);
    }

    private static void noOtherWithALink(Check c) {
        c.sentence("to all other ports with a LINK: there may be none");
        Gates alone = Gates.linked(c, 1, 672);
        alone.frame(1, 1, 0, 64).is(0);
        alone.drops(0, 0, 1, 0);
        Gates x = new Gates(c, 16);
        x.link(16, 672);
        x.frame(16, 1, 0, 64).is(0);
        x.drops(0, 0, 1, 0);
        x.run(10).is(0);
    }

    private static void roomForSixteen(Check c) {
        c.sentence("a QUEUE with room for 16");
        Gates x = Gates.linked(c, 2, 672);
        for (int number = 1; number <= 16; number++) {
            x.frame(1, 1, 4, 64).is(number);
        }
        x.drops(0, 0, 0, 0);
        x.frame(1, 1, 4, 64).is(0);
        x.frame(1, 1, 4, 64).is(0);
        x.drops(2, 0, 0, 0);
        x.run(100).is(16);
        x.departed(0, 1, 2, 0, 1);
        x.departed(15, 16, 2, 15, 16);
    }

    private static void roomOfEachRankAndPort(Check c) {
        c.sentence("each has a QUEUE for each rank");
        Gates x = Gates.linked(c, 3, 672);
        x.learn(2, 2, -1);
        x.learn(3, 3, -1);
        for (int rank = 0; rank < 8; rank++) {
            for (int i = 0; i < 16; i++) {
                x.frame(1, 2, rank, 64).is(32 * rank + 2 * i + 1);
                x.frame(1, 3, rank, 64).is(32 * rank + 2 * i + 2);
            }
        }
        x.frame(1, 2, 0, 64).is(0);
        x.frame(1, 3, 7, 64).is(0);
        x.drops(2, 0, 0, 0);
        x.link(2, 0).is(128);
        x.link(3, 0).is(128);
    }

    private static void roomAfterOneBegan(Check c) {
        c.sentence("room for 16 again when the first has begun");
        Gates x = Gates.linked(c, 2, 1);
        for (int number = 1; number <= 16; number++) {
            x.frame(1, 1, 0, 64).is(number);
        }
        x.run(0);
        x.frame(1, 1, 0, 64).is(0);
        x.run(1);
        x.frame(1, 1, 0, 64).is(18);
        x.frame(1, 1, 0, 64).is(0);
        x.link(2, 0).is(17);
        for (int number = 20; number <= 35; number++) {
            x.link(2, 1);
            x.frame(1, 1, 0, 64).is(number);
        }
        x.frame(1, 1, 0, 64).is(0);
        x.drops(3, 0, 0, 17);
    }

    private static void droppedThereAlone(Check c) {
        c.sentence("a frame that finds no room there is dropped there");
        Gates x = Gates.linked(c, 4, 672);
        x.learn(2, 2, -1);
        x.learn(3, 3, -1);
        for (int i = 0; i < 16; i++) {
            x.frame(1, 2, 5, 64);
        }
        x.frame(1, 9, 5, 64).is(17);
        x.drops(1, 0, 0, 0);
        x.link(3, 0).is(1);
        x.link(4, 0).is(1);
        x.link(2, 0).is(16);
        x.drops(1, 0, 0, 18);
    }

    private static void ringOfAQueue(Check c) {
        c.sentence("frames leave a QUEUE in the order in which they came, however often it went round");
        Gates x = Gates.linked(c, 2, 672);
        int number = 0;
        for (int round = 0; round < 6; round++) {
            for (int i = 0; i < 13; i++) {
                number++;
                x.frame(1, 1, 2, 64).is(number);
            }
            x.run(13);
        }
        x.run(1);
        x.left(-1, 0).is(number);
        for (int i = 0; i < number; i++) {
            x.departed(i, i + 1, 2, i, i + 1);
        }
    }
}
