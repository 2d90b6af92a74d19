/** Promises 8 to 11: sittings, windows, taking back, reading from a sheet. */
public final class SittingsTest {
    private static final Check CHECK = new Check();

    public static void main(String[] args) {
        sitting();
        windows();
        takingBack();
        reading();
        CHECK.end();
    }

    private static void due(String call, long got, long want) {
        CHECK.due(call, got, want);
    }

    private static void sitting() {
        ChairSmells x = new ChairSmells();
        due("hour -1", x.sit(-1, 0, 0), ChairSmells.BAD);
        due("hour 24", x.sit(24, 0, 0), ChairSmells.BAD);
        due("person -1", x.sit(0, -1, 0), ChairSmells.BAD);
        due("person 8", x.sit(0, 8, 0), ChairSmells.BAD);
        due("thing -1", x.sit(0, 0, -1), ChairSmells.BAD);
        due("thing 6", x.sit(0, 0, 6), ChairSmells.BAD);
        due("none sat", x.count(4), 0);
        for (int n = 1; n <= 20; n++) {
            due("sit " + n, x.sit(23, 7, 5), n);
        }
        due("sit 21", x.sit(0, 0, 0), ChairSmells.FULL);
        due("bad first", x.sit(24, 0, 0), ChairSmells.BAD);
        due("20 sat", x.count(4), 20);
    }

    private static void windows() {
        ChairSmells x = new ChairSmells();
        due("hour -1", x.window(-1, 0), ChairSmells.BAD);
        due("hour 24", x.window(24, 0), ChairSmells.BAD);
        due("thing -1", x.window(0, -1), ChairSmells.BAD);
        due("thing 6", x.window(0, 6), ChairSmells.BAD);
        for (int n = 1; n <= 8; n++) {
            due("window " + n, x.window(23, 5), n);
        }
        due("window 9", x.window(0, 0), ChairSmells.FULL);
        due("bad first", x.window(0, 6), ChairSmells.BAD);
        due("8 windows", x.count(5), 8);
    }

    private static void takingBack() {
        ChairSmells x = Check.house("32o", "90.;90.;90.");
        due("back -1", x.back(-1), ChairSmells.BAD);
        due("back 2", x.back(2), ChairSmells.BAD);
        due("back none", x.back(0), ChairSmells.NOT);
        due("back none", x.back(1), ChairSmells.NOT);
        x.sit(5, 0, 0);
        x.sit(3, 1, 0);
        x.sit(3, 2, 0);
        x.window(4, 0);
        x.window(3, 0);
        due("behind 3", x.tells(3, 0), 2);
        due("the last told goes, not the latest", x.back(0), 2);
        due("behind 3", x.tells(3, 0), 0);
        due("back window", x.back(1), 1);
        due("behind 3", x.tells(3, 0), 2);
        due("behind 4", x.tells(4, 0), 0);
        due("back window", x.back(1), 0);
        due("behind 5", x.tells(5, 0), 3);
        due("back", x.back(0), 1);
        due("behind 5", x.tells(5, 0), 1);
        due("back", x.back(0), 0);
        due("behind 5", x.tells(5, 0), 0);
    }

    private static void reading() {
        ChairSmells x = Check.house("32o", "90.;90.;90.");
        due("read -1", x.read(-1), ChairSmells.BAD);
        due("read 4", x.read(4), ChairSmells.BAD);
        due("bad is no finding", x.count(8), 0);
        due("read lost", x.read(1), -11);
        due("finding", x.count(8), 1);
        Check.sheet(x, 1, 2, 1, 0, 0, 2, 1, 0, 3, 2);
        due("as many as are whole", x.read(1), 2);
        due("two sittings", x.count(4), 2);
        due("they sit", x.tells(2, 0), 3);
        Check.sheet(x, 1, 0, 4, 2, 0, 5, 8, 0, 6, 1, 0);
        due("as long as each may be", x.read(1), 1);
        due("behind those that were", x.count(4), 3);
        Check.sheet(x, 1, 1);
        due("no items", x.read(1), 0);
        Check.sheet(x, 1, 1, new int[60]);
        due("as long as there is room", x.read(1), 17);
        due("full", x.count(4), 20);
        due("full", x.read(1), 0);
    }
}
