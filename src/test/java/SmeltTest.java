/** Promises 22 to 29: smelt, forget, when, who, stand, draughts, found and day. */
public final class SmeltTest {
    private static final Check CHECK = new Check();
    private static final int ALL = 0xffffff;
    private static final long BAD_LONG = Long.MIN_VALUE + 2;

    public static void main(String[] args) {
        smeltAndForget();
        when();
        who();
        stand();
        draughts();
        draughtsByHand();
        found();
        day();
        CHECK.end();
    }

    private static void due(String call, long got, long want) {
        CHECK.due(call, got, want);
    }

    private static void smeltAndForget() {
        ChairSmells x = new ChairSmells();
        due("hour", x.smelt(-1, 0, 0), ChairSmells.BAD);
        due("hour", x.smelt(24, 0, 0), ChairSmells.BAD);
        due("thing", x.smelt(0, -1, 0), ChairSmells.BAD);
        due("thing", x.smelt(0, 6, 0), ChairSmells.BAD);
        due("smells", x.smelt(0, 0, -1), ChairSmells.BAD);
        due("smells", x.smelt(0, 0, 256), ChairSmells.BAD);
        for (int n = 1; n <= 8; n++) {
            due("smelt", x.smelt(23, 5, 255), n);
        }
        due("smelt 9", x.smelt(0, 0, 0), ChairSmells.FULL);
        due("bad first", x.smelt(0, 6, 0), ChairSmells.BAD);
        due("count", x.count(6), 8);
        due("forget", x.forget(), 8);
        due("count", x.count(6), 0);
        due("forget", x.forget(), 0);
        due("smelt", x.smelt(0, 0, 0), 1);
    }

    private static void when() {
        ChairSmells x = Check.house("21o", "90.;92.");
        due("nothing smelt", x.when(1, 0), ALL);
        x.sit(3, 0, 0);
        x.smelt(10, 0, 1);
        // person 1 smells for 4 hours behind its own: 9, 7, 5, 3, 1
        due("ahead of the other, or long gone, or later", x.when(1, 0), 0b111111111111100000111111 & ALL);
        x.forget();
        x.smelt(3, 0, 2);
        due("behind all others in its hour", x.when(1, 0), 0b1000);
        x.smelt(2, 0, 0);
        due("all that was smelt", x.when(1, 0), 0b1000);
        x.smelt(4, 0, 1);
        due("all that was smelt", x.when(1, 0), 0);
        due("no sitting is left behind", x.count(4), 1);
        due("person", x.when(2, 0), ChairSmells.BAD);
        due("person", x.when(-1, 0), ChairSmells.BAD);
        due("thing", x.when(0, 1), ChairSmells.BAD);
        due("thing", x.when(0, -1), ChairSmells.BAD);
    }

    private static void who() {
        ChairSmells x = Check.house("21o", "90.;90.;11.;90a");
        due("no such", x.who(0), ChairSmells.BAD);
        x.sit(1, 0, 0);
        x.sit(2, 7, 0);
        due("nothing smelt: anybody that is there", x.who(0), 15);
        x.smelt(1, 0, 1);
        due("who smells so", x.who(0), 9);
        due("any later", x.who(1), 15);
        x.smelt(3, 0, 1);
        due("behind the other's place: itself, or gone by then", x.who(1), 13);
        due("one who is not there may stand in no set", x.who(0), 9);
        x.smelt(5, 5, 0);
        due("a thing that is not there tells nothing", x.who(0), 9);
        x.smelt(5, 5, 4);
        due("and cannot have told", x.who(0), 0);
        due("no such", x.who(2), ChairSmells.BAD);
        due("no such", x.who(-1), ChairSmells.BAD);
        x.forget();
        due("as it was told before", x.tells(2, 0), 1);
    }

    private static void stand() {
        ChairSmells x = Check.house("21o;31o;55o", "90.;90.;90.;90.");
        x.sit(1, 0, 2);
        x.sit(2, 1, 2);
        due("the one that tells them apart", x.stand(0, 1), 2);
        due("before, all are alike: the least", x.stand(0, 0), 0);
        due("behind the other: two are alike", x.stand(0, 2), 2);
        x.sit(3, 0, 0);
        due("told of another thing", x.stand(2, 3), 0);
        x.smelt(3, 0, 255);
        due("nobody may have: the least", x.stand(2, 3), 0);
        due("no such", x.stand(3, 3), ChairSmells.BAD);
        due("no such", x.stand(-1, 3), ChairSmells.BAD);
        due("hour", x.stand(0, 24), ChairSmells.BAD);
        due("hour", x.stand(0, -1), ChairSmells.BAD);
        ChairSmells bare = Check.house("", "90.");
        bare.sit(0, 0, 0);
        due("no things", bare.stand(0, 0), ChairSmells.NONE);
        due("no things, no such", bare.stand(1, 0), ChairSmells.BAD);
        due("no things, hour", bare.stand(0, 24), ChairSmells.BAD);
    }

    private static void chance(String what, ChairSmells x, int[] asked, long above, long below) {
        due(what + " above", x.draughts(asked[0], asked[1], asked[2], asked[3], 0), above);
        due(what + " below", x.draughts(asked[0], asked[1], asked[2], asked[3], 1), below);
    }

    private static int[] of(int... numbers) {
        return numbers;
    }

    private static void draughts() {
        ChairSmells x = Check.house("22o;22u", "90.;90.");
        int[][] wrong = {{-1, 0, 0, 0, 0}, {17, 0, 0, 0, 0}, {0, -1, 0, 0, 0}, {0, 2, 0, 0, 0}, {0, 0, -1, 0, 0},
            {0, 0, 8, 0, 0}, {0, 0, 0, -1, 0}, {0, 0, 0, 10, 0}, {0, 0, 0, 0, -1}, {0, 0, 0, 0, 2}};
        for (int[] w : wrong) {
            due("draughts", x.draughts(w[0], w[1], w[2], w[3], w[4]), BAD_LONG);
        }
        chance("nobody was there", x, of(8, 0, 0, 9), 0, 1);
        x.sit(0, 0, 0);
        chance("no draught", x, of(0, 0, 0, 9), 1, 1);
        chance("always", x, of(16, 0, 0, 0), 0, 1);
        chance("one hour", x, of(6, 0, 0, 0), 5, 8);
        chance("ten hours", x, of(1, 0, 0, 9), 576650390625L, 1099511627776L);
        x.window(0, 0);
        chance("behind the window", x, of(6, 0, 0, 0), 0, 1);
    }

    private static void draughtsByHand() {
        ChairSmells x = Check.house("22o;22u", "90.;90.");
        x.sit(0, 0, 0);
        x.sit(0, 1, 0);
        x.sit(0, 0, 1);
        x.sit(0, 1, 1);
        chance("the one under: not aired twice", x, of(8, 0, 0, 1), 3, 4);
        chance("the one over: never aired", x, of(8, 0, 1, 1), 1, 4);
        chance("the last is under", x, of(8, 1, 1, 1), 3, 4);
        chance("the last is under", x, of(8, 1, 0, 1), 1, 4);
        x.sit(1, 1, 0);
        // 1 comes anew in hour 1 over what hour 0 left: 0 is told if it was not aired then with 1 gone
        chance("come anew", x, of(8, 0, 1, 1), 1, 2);
        chance("under the new one", x, of(8, 0, 0, 1), 1, 1);
    }

    private static void found() {
        ChairSmells x = Check.house("21o", "90.;91.");
        int[][] wrong = {{-1, 0, 0, 0}, {ALL + 1, 0, 0, 0}, {1, -1, 0, 0}, {1, 1, 0, 0}, {1, 0, -1, 0},
            {1, 0, 8, 0}, {1, 0, 0, -1}, {1, 0, 0, 2}};
        for (int[] w : wrong) {
            due("found", x.found(w[0], w[1], w[2], w[3]), BAD_LONG);
        }
        x.sit(0, 0, 0);
        x.sit(4, 1, 0);
        due("no hours", x.found(0, 0, 0, 0), 0);
        due("no hours", x.found(0, 0, 0, 1), 1);
        due("nine hours of all", x.found(ALL, 0, 1, 0), 3);
        due("nine hours of all", x.found(ALL, 0, 1, 1), 8);
        due("the others", x.found(ALL, 0, 0, 0), 5);
        due("the others", x.found(ALL, 0, 0, 1), 8);
        due("always", x.found(15, 0, 0, 0), 1);
        due("always", x.found(15, 0, 0, 1), 1);
        due("one of three", x.found(0b11001, 0, 1, 1), 3);
    }

    private static void day() {
        ChairSmells x = Check.house("55o;55o", "90.;90.;90.");
        due("hour", x.day(1, -1, 0), ChairSmells.BAD);
        due("hour", x.day(1, 24, 0), ChairSmells.BAD);
        due("thing", x.day(1, 0, 2), ChairSmells.BAD);
        due("thing", x.day(1, 0, -1), ChairSmells.BAD);
        for (int seed : new int[] {0, 1, 7, -1, 123456789, Integer.MIN_VALUE, Integer.MAX_VALUE}) {
            int first = 1103515245 * seed + 12345;
            int second = 1103515245 * first + 12345;
            int person = (first >>> 16) % 3;
            int thing = (second >>> 16) % 2;
            due("the lot of a person, then of a thing", x.day(seed, 0, thing), 1 << person);
            due("nobody at the other", x.day(seed, 0, 1 - thing), 0);
        }
        due("no sitting is left behind", x.count(4), 0);
        for (int n = 0; n < 20; n++) {
            x.sit(23, n % 3, 0);
        }
        x.day(5, 23, 0);
        due("no sitting is left behind", x.count(4), 20);
        due("nor moved", x.layers(23, 0, 0), 1);
        Check.text(x, 1, "");
        due("nobody, no lots", x.day(1, 23, 0), 0);
    }
}
