import java.math.BigInteger;

/** Promises 27 to 29 and what they lean on: draughts, a detective who comes by lot, days by a seed. */
final class ChancesEdges {
    private static final int NONE = Edges.NONE, BAD = Edges.BAD;
    private static final int ALL = 0xffffff;
    private static final String EIGHT = "90.;90.;90.;90.;90.;90.;90.;90.";

    static void all(Edges e) {
        lowestTerms(e);
        draughtsChance(e);
        draughts(e);
        foundChance(e);
        found(e);
        lots(e);
        dayByASeed(e);
        noLots(e);
        day(e);
    }

    private static void chance(Edges e, String what, ChairSmells x, int[] asked, long above, long below) {
        e.due(what + ": above", x.draughts(asked[0], asked[1], asked[2], asked[3], 0), above);
        e.due(what + ": below", x.draughts(asked[0], asked[1], asked[2], asked[3], 1), below);
    }

    private static void foundDue(Edges e, String what, ChairSmells x, int[] asked, long above, long below) {
        e.due(what + ": above", x.found(asked[0], asked[1], asked[2], 0), above);
        e.due(what + ": below", x.found(asked[0], asked[1], asked[2], 1), below);
    }

    private static int[] of(int... numbers) {
        return numbers;
    }

    private static void lowestTerms(Edges e) {
        e.says(27, "FRACTIONS are told in lowest terms, above and below (0 by 1).");
        ChairSmells x = Edges.house("11o", EIGHT, 0, 0, 0);
        for (int c = 0; c <= 16; c++) {
            long common = BigInteger.valueOf(16 - c).gcd(BigInteger.valueOf(16)).longValue();
            chance(e, c + " sixteenths", x, of(c, 0, 0, 0), (16 - c) / common, 16 / common);
        }
        chance(e, "0 by 1", x, of(8, 0, 1, 9), 0, 1);
        for (int n = 1; n <= 24; n++) {
            int hours = (1 << n) - 1;
            foundDue(e, "all of " + n, x, of(hours, 0, 0), 1, 1);
            foundDue(e, "none of " + n, x, of(hours, 0, 1), 0, 1);
        }
        ChairSmells half = Edges.house("11o", EIGHT, 12, 0, 0);
        foundDue(e, "12 of 24", half, of(ALL, 0, 0), 1, 2);
        foundDue(e, "11 of 23", half, of(ALL >> 1, 0, 0), 11, 23);
        foundDue(e, "10 of 22", half, of(ALL >> 2, 0, 0), 5, 11);
    }

    private static void draughtsChance(Edges e) {
        e.says(27, "DRAUGHTS: in each HOUR from 0 to a told one (0 to 9) a THING is aired by c sixteenths (0 to 16),"
                + " by itself, behind its WINDOWS as told: the chance that it TELLS of a SMELL behind that: a FRACTION.");
        ChairSmells x = Edges.house("11o", EIGHT, 0, 0, 0);
        chance(e, "never aired", x, of(0, 0, 0, 9), 1, 1);
        chance(e, "always aired", x, of(16, 0, 0, 9), 0, 1);
        long above = 1;
        long below = 1;
        for (int hour = 0; hour <= 9; hour++) {
            above *= 15;
            below *= 16;
            chance(e, "each hour from 0 to " + hour, x, of(1, 0, 0, hour), above, below);
        }
        chance(e, "the least chance there is", x, of(15, 0, 0, 9), 1, 1099511627776L);
        ChairSmells late = Edges.house("11o", EIGHT, 9, 0, 0);
        chance(e, "in the last hour, behind the sitting", late, of(4, 0, 0, 9), 3, 4);
        chance(e, "an hour ahead of it", late, of(4, 0, 0, 8), 0, 1);
        ChairSmells beyond = Edges.house("11o", EIGHT, 10, 0, 0);
        chance(e, "hour 10 does not count", beyond, of(0, 0, 0, 9), 0, 1);
        ChairSmells window = Edges.house("22o", EIGHT, 0, 0, 0, 0, 1, 0);
        window.window(0, 0);
        chance(e, "behind its window: the one over is gone", window, of(4, 0, 1, 0), 0, 1);
        chance(e, "behind its window: the next", window, of(4, 0, 0, 0), 3, 4);
        ChairSmells empty = Edges.house("22o", EIGHT, 1, 0, 0);
        chance(e, "where there is no layer none is lost", empty, of(16, 0, 0, 0), 0, 1);
        chance(e, "a draught ahead of the sitting is none", empty, of(8, 0, 0, 1), 1, 2);
        ChairSmells two = Edges.house("51o;51u", EIGHT, 0, 0, 0, 0, 1, 0, 0, 0, 1, 0, 1, 1);
        chance(e, "the one over is told of until it is aired", two, of(8, 0, 1, 1), 1, 4);
        chance(e, "the one under is told of when just one was", two, of(8, 0, 0, 1), 1, 2);
        chance(e, "the last is under", two, of(8, 1, 0, 1), 1, 4);
        chance(e, "each thing by itself", two, of(8, 1, 1, 1), 1, 2);
    }

    private static void draughts(Edges e) {
        e.says(27, "DRAUGHTS: above, below.");
        ChairSmells x = Edges.house("11o", EIGHT, 0, 7, 0);
        e.due("above", x.draughts(4, 0, 7, 0, 0), 3);
        e.due("below", x.draughts(4, 0, 7, 0, 1), 4);
        e.says(27, "BAD. (As the least long.)");
        int[][] wrong = {{-1, 0, 0, 0, 0}, {17, 0, 0, 0, 0}, {Edges.MOST, 0, 0, 0, 0}, {Edges.LEAST, 0, 0, 0, 0},
            {0, -1, 0, 0, 0}, {0, 3, 0, 0, 0}, {0, 6, 0, 0, 0}, {0, Edges.MOST, 0, 0, 0}, {0, Edges.LEAST, 0, 0, 0},
            {0, 0, -1, 0, 0}, {0, 0, 5, 0, 0}, {0, 0, 8, 0, 0}, {0, 0, Edges.MOST, 0, 0}, {0, 0, Edges.LEAST, 0, 0},
            {0, 0, 0, -1, 0}, {0, 0, 0, 10, 0}, {0, 0, 0, 23, 0}, {0, 0, 0, Edges.MOST, 0}, {0, 0, 0, Edges.LEAST, 0},
            {0, 0, 0, 0, -1}, {0, 0, 0, 0, 2}, {0, 0, 0, 0, Edges.MOST}, {0, 0, 0, 0, Edges.LEAST}};
        for (int[] w : wrong) {
            String call = "draughts(" + w[0] + ", " + w[1] + ", " + w[2] + ", " + w[3] + ", " + w[4] + ")";
            e.refused(Edges::rich, call, y -> y.draughts(w[0], w[1], w[2], w[3], w[4]), Edges.BAD_LONG);
        }
        e.refused(Edges::full, "a seventh thing", y -> y.draughts(0, 6, 0, 0, 0), Edges.BAD_LONG);
        e.refused(Edges::full, "a ninth smell", y -> y.draughts(0, 0, 8, 0, 0), Edges.BAD_LONG);
        e.refused(Edges::empty, "nothing", y -> y.draughts(0, 0, 0, 0, 0), Edges.BAD_LONG);
    }

    private static void foundChance(Edges e) {
        e.says(28, "FOUND: the detective comes behind an HOUR, each of told ones (bits of HOURS) as like as any,"
                + " to a THING: the chance that it TELLS of a SMELL: a FRACTION (0 by 1: no HOURS).");
        ChairSmells x = Edges.house("11o;11o", EIGHT, 0, 0, 0, 8, 1, 0, 23, 7, 0);
        foundDue(e, "no hours", x, of(0, 0, 0), 0, 1);
        foundDue(e, "the first hour alone", x, of(1, 0, 0), 1, 1);
        foundDue(e, "the last hour alone", x, of(1 << 23, 0, 7), 1, 1);
        foundDue(e, "all hours", x, of(ALL, 0, 0), 1, 3);
        foundDue(e, "all hours", x, of(ALL, 0, 1), 5, 8);
        foundDue(e, "all hours", x, of(ALL, 0, 7), 1, 24);
        foundDue(e, "behind the hour, not ahead of it", x, of(1 << 8, 0, 1), 1, 1);
        foundDue(e, "the hour ahead", x, of(1 << 7, 0, 1), 0, 1);
        foundDue(e, "two of three", x, of(1 << 6 | 1 << 7 | 1 << 8, 0, 0), 2, 3);
        foundDue(e, "another thing", x, of(ALL, 1, 0), 0, 1);
        foundDue(e, "nobody told of", x, of(ALL, 0, 6), 0, 1);
    }

    private static void found(Edges e) {
        e.says(28, "FOUND (bits of HOURS): above, below.");
        ChairSmells x = Edges.house("11o", EIGHT, 1, 7, 0);
        e.due("above", x.found(3, 0, 7, 0), 1);
        e.due("below", x.found(3, 0, 7, 1), 2);
        e.due("the greatest bits", x.found(ALL, 0, 7, 0), 23);
        e.says(28, "BAD. (As the least long.)");
        int[][] wrong = {{-1, 0, 0, 0}, {ALL + 1, 0, 0, 0}, {Edges.MOST, 0, 0, 0}, {Edges.LEAST, 0, 0, 0},
            {1, -1, 0, 0}, {1, 3, 0, 0}, {1, 6, 0, 0}, {1, Edges.MOST, 0, 0}, {1, Edges.LEAST, 0, 0},
            {1, 0, -1, 0}, {1, 0, 5, 0}, {1, 0, 8, 0}, {1, 0, Edges.MOST, 0}, {1, 0, Edges.LEAST, 0},
            {1, 0, 0, -1}, {1, 0, 0, 2}, {1, 0, 0, Edges.MOST}, {1, 0, 0, Edges.LEAST}, {0, 3, 0, 0}, {0, 0, 0, 2}};
        for (int[] w : wrong) {
            String call = "found(" + w[0] + ", " + w[1] + ", " + w[2] + ", " + w[3] + ")";
            e.refused(Edges::rich, call, y -> y.found(w[0], w[1], w[2], w[3]), Edges.BAD_LONG);
        }
        e.refused(Edges::full, "a seventh thing", y -> y.found(1, 6, 0, 0), Edges.BAD_LONG);
        e.refused(Edges::full, "a ninth smell", y -> y.found(1, 0, 8, 0), Edges.BAD_LONG);
        e.refused(Edges::empty, "nothing", y -> y.found(0, 0, 0, 0), Edges.BAD_LONG);
    }

    /** The seed behind a lot, by numbers that do not wrap. */
    private static int nextSeed(int seed) {
        return BigInteger.valueOf(1103515245).multiply(BigInteger.valueOf(seed)).add(BigInteger.valueOf(12345)).intValue();
    }

    /** The upper 16 bits of a seed as a number from 0 on. */
    private static int upper(int seed) {
        return (int) ((seed & 0xffffffffL) / 65536);
    }

    private static void lots(Edges e) {
        e.says(29, "LOTS of m: SEED becomes 1103515245 SEED and 12345, as ints that wrap;"
                + " its upper 16 bits as a number from 0 on, modulo m.");
        int[] seeds = {0, 1, -1, 2, 7, 65535, 65536, Edges.MOST, Edges.LEAST, Edges.LEAST + 1, 1000003, -1000003};
        boolean belowZero = false;
        for (int m = 1; m <= 8; m++) {
            ChairSmells x = Check.house("55o", EIGHT.substring(0, 4 * m - 1));
            for (int seed : seeds) {
                int next = nextSeed(seed);
                belowZero |= next < 0;
                e.due("seed " + seed + ", lot of " + m, x.day(seed, 0, 0), 1 << upper(next) % m);
            }
        }
        e.due("some seeds wrapped to below 0", belowZero ? 1 : 0, 1);
        for (int m = 1; m <= 6; m++) {
            ChairSmells x = Check.house("55o;55o;55o;55o;55o;55o".substring(0, 4 * m - 1), "90.");
            for (int seed : seeds) {
                int thing = upper(nextSeed(nextSeed(seed))) % m;
                for (int t = 0; t < m; t++) {
                    e.due("seed " + seed + ", second lot of " + m, x.day(seed, 0, t), t == thing ? 1 : 0);
                }
            }
        }
    }

    private static void dayByASeed(Edges e) {
        e.says(29, "DAY by a SEED: in each HOUR from 0 to a told one a LOT of PERSONS, then a LOT of THINGS:"
                + " a SITTING more, told behind all others");
        for (int seed : new int[] {0, 5, -77, Edges.MOST, Edges.LEAST}) {
            ChairSmells told = Check.house("22o;33u", "90.;51.;32.");
            ChairSmells lot = Check.house("22o;33u", "90.;51.;32.");
            int now = seed;
            for (int hour = 0; hour < 20; hour++) {
                now = nextSeed(now);
                int person = upper(now) % 3;
                now = nextSeed(now);
                told.sit(hour, person, upper(now) % 2);
                e.due("seed " + seed + ", hour " + hour, lot.day(seed, hour, 0), told.tells(hour, 0));
                e.due("seed " + seed + ", hour " + hour, lot.day(seed, hour, 1), told.tells(hour, 1));
            }
            e.due("none of them stays", lot.count(4), 0);
        }
        ChairSmells behind = Edges.house("11o", EIGHT, 0, 0, 0);
        int person = upper(nextSeed(3)) % 8;
        e.due("behind who was told in that hour", behind.day(3, 0, 0), 1 << person);
        e.due("which is another", person == 0 ? 1 : 0, 0);
        ChairSmells full = Check.house("11o", "90.;90.");
        for (int n = 0; n < 20; n++) {
            full.sit(23, 0, 0);
        }
        int last = 1;
        for (int n = 0; n < 47; n++) {
            last = nextSeed(last);
        }
        e.due("24 more than there may be told", full.day(1, 23, 0), 1 << upper(last) % 2);
        e.due("whose last lot is of another", upper(last) % 2, 1);
        e.due("none of them stays", full.count(4), 20);
        e.due("nor smells", full.tells(23, 0), 1);
    }

    private static void noLots(Edges e) {
        e.says(29, "(no LOTS where there are no PERSONS, or no THINGS): what a THING TELLS behind that, as bits.");
        for (int hour : new int[] {0, 23}) {
            e.due("nobody", Check.house("55o", "").day(1, hour, 0), 0);
            e.due("people with a fault", Check.house("55o", "90.;").day(1, hour, 0), 0);
            e.due("no thing", Check.house("", "90.").day(1, hour, 0), BAD);
        }
        e.due("behind the told hour, not later", Edges.house("55o", "90.;90.", 1, 1, 0).day(0, 0, 0) & 2, 0);
        ChairSmells window = Check.house("11o", "90.");
        window.window(0, 0);
        e.due("behind its windows", window.day(1, 0, 0), 0);
        e.due("the next hour", window.day(1, 1, 0), 1);
    }

    private static void day(Edges e) {
        e.says(29, "DAY, as bits.");
        e.due("one", Check.house("11o", "90.").day(9, 23, 0), 1);
        e.due("the seed may be any int", Check.house("11o", "90.").day(Edges.LEAST, 0, 0), 1);
        e.says(29, "BAD.");
        for (int thing : new int[] {NONE, 3, 5, 6, Edges.MOST, Edges.LEAST}) {
            e.bad(Edges::rich, "day(1, 0, " + thing + ")", x -> x.day(1, 0, thing));
        }
        for (int hour : new int[] {-1, 24, Edges.MOST, Edges.LEAST}) {
            e.bad(Edges::rich, "day(1, " + hour + ", 0)", x -> x.day(1, hour, 0));
        }
        e.bad(Edges::full, "a seventh thing", x -> x.day(1, 0, 6));
        e.bad(Edges::empty, "nothing", x -> x.day(1, 0, 0));
    }
}
