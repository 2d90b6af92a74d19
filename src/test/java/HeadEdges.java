/** The first sentence of the document, phrase by phrase, each with one plain house that shows it. */
final class HeadEdges {
    private static final int NONE = Edges.NONE;

    static void all(Edges e) {
        aChairAndACoat(e);
        theDetective(e);
        texts(e);
        hoursAndWindows(e);
        inWhatOrder(e);
        fromWhatIsSmelt(e);
        fewestSittings(e);
        fewestWindows(e);
        together(e);
        chances(e);
        days(e);
        undone(e);
    }

    /** A chair, a coat and six guests, the stronger ahead: in each hour the next one is at both. */
    private static ChairSmells guests() {
        ChairSmells x = Check.house("33o;55o", "90.;80.;70.;60.;50.;40.");
        for (int guest = 0; guest < 6; guest++) {
            x.sit(guest, guest, 0);
            x.sit(guest, guest, 1);
        }
        return x;
    }

    private static void aChairAndACoat(Edges e) {
        e.says(12, "It smells of who was there: a chair keeps the last three, a coat five,");
        e.due("layers of the chair", guests().layers(5, 0, NONE), 3);
        e.due("layers of the coat", guests().layers(5, 1, NONE), 5);
        for (int i = 0; i < 5; i++) {
            e.due("chair, layer " + i, guests().layers(5, 0, i), i < 3 ? 5 - i : NONE);
            e.due("coat, layer " + i, guests().layers(5, 1, i), 5 - i);
        }
        e.says(13, "thin over thick,");
        for (int i = 0; i < 5; i++) {
            e.due("coat, how strong layer " + i + " is", guests().strong(5, 1, i), 4 + i);
        }
    }

    private static void theDetective(Edges e) {
        e.says(26, "and a house detective, who has no other sense to speak of, comes at ten and stands;");
        e.due("the chair tells at ten", guests().tells(10, 0), 0b111000);
        e.due("the coat tells at ten", guests().tells(10, 1), 0b111110);
        e.due("the chair tells who was at it in hour 5", guests().stand(10, 10), 0);
        e.due("the coat tells who was at it in hour 5", guests().stand(11, 10), 1);
    }

    private static void texts(Edges e) {
        e.says(6, "things as a text, how many each keeps, how much a nose can tell;");
        ChairSmells x = Check.house("31o;54u", "72.;91a");
        e.due("things", x.count(0), 2);
        e.due("the chair keeps", x.thing(0, 0), 3);
        e.due("the coat keeps", x.thing(1, 0), 5);
        e.due("nose of the chair", x.thing(0, 1), 1);
        e.due("nose of the coat", x.thing(1, 1), 4);
        e.says(7, "people as a text, how strong each smells, whose soap is whose;");
        e.due("people", x.count(1), 2);
        e.due("how strong the first smells", x.person(0, 0), 7);
        e.due("how strong the second smells", x.person(1, 0), 9);
        e.due("the first's soap", x.person(0, 2), 0);
        e.due("the second's soap", x.person(1, 2), 0);
    }

    private static void hoursAndWindows(Edges e) {
        e.says(9, "sittings hour by hour, windows opened;");
        ChairSmells x = Edges.house("33o", "90.;80.;70.", 4, 2, 0, 1, 0, 0, 2, 1, 0);
        x.window(3, 0);
        int[] due = {0, 1, 3, 1, 5};
        for (int hour = 0; hour < due.length; hour++) {
            e.due("tells behind hour " + hour, x.tells(hour, 0), due[hour]);
        }
    }

    private static void inWhatOrder(Edges e) {
        e.says(12, "of whom a thing smells, in what order;");
        ChairSmells x = Edges.house("33o;33u", "90.;80.", 0, 0, 0, 1, 1, 0, 0, 0, 1, 1, 1, 1);
        e.due("over all others, o", x.layers(1, 0, 0), 1);
        e.due("under it, o", x.layers(1, 0, 1), 0);
        e.due("over all others, u", x.layers(1, 1, 0), 0);
        e.due("under it, u", x.layers(1, 1, 1), 1);
        e.says(15, "who is nowhere smelt;");
        e.due("nowhere, of six guests", guests().nowhere(5), 0b000001);
        e.due("nowhere, as long as all are smelt", guests().nowhere(4), 0);
    }

    private static void fromWhatIsSmelt(Edges e) {
        e.says(25, "who was where, from what is smelt,");
        ChairSmells x = Edges.house("11o;33o", "90.;80.;73.", 2, 0, 0);
        e.due("who, with nothing smelt", x.who(0), 0b111);
        x.smelt(5, 0, 0b010);
        e.due("who, as the chair smells of 1", x.who(0), 0b010);
        e.due("when 1 was there", x.when(1, 0), 0b111100);
        e.due("when 0 was there", x.when(0, 0), 0);
        e.says(26, "which thing tells most to stand by;");
        ChairSmells y = Edges.house("11o;33o", "90.;80.;73.", 2, 0, 1);
        e.due("stand by the coat", y.stand(0, 3), 1);
        e.due("by which no one is told from another", Edges.house("11o;33o", "90.", 2, 0, 1).stand(0, 3), 0);
    }

    private static void fewestSittings(Edges e) {
        e.says(18, "the fewest sittings by which nothing tells of one,");
        ChairSmells x = Edges.house("22o;11o", "90.;80.;70.", 0, 0, 0);
        e.due("sittings to hide 0", x.hide(0, 3, 4, NONE), 2);
        e.due("the first", x.hide(0, 3, 4, 0), 1);
        e.due("the second", x.hide(0, 3, 4, 1), 2);
        e.due("sittings to hide 1", x.hide(1, 3, 4, NONE), 0);
        e.says(19, "or tells of another;");
        e.due("sittings to frame 2", x.frame(1, 0b100, 3, 4, NONE), 1);
        e.due("the first", x.frame(1, 0b100, 3, 4, 0), 8 + 2);
    }

    private static void fewestWindows(Edges e) {
        e.says(20, "windows, the fewest, by which told things tell nothing;");
        ChairSmells x = Edges.house("22o;11o", "90.;80.", 0, 0, 0, 0, 1, 0, 0, 1, 1);
        e.due("windows for both", x.air(3, 2, 3, NONE), 3);
        e.due("windows for the coat", x.air(2, 2, 3, NONE), 1);
        e.due("the coat's", x.air(2, 2, 3, 0), 1);
        e.due("the third of both", x.air(3, 2, 3, 2), 1);
    }

    private static void together(Edges e) {
        e.says(17, "two who cannot be had apart;");
        ChairSmells x = Edges.house("22o;33o", "90.;80.;70.", 0, 0, 0, 0, 2, 0);
        e.due("pairs", x.together(NONE), 1);
        e.due("the pair", x.together(0), 2);
        x.sit(5, 2, 1);
        e.due("pairs, as one was alone", x.together(NONE), 0);
        e.says(21, "things to leave about so that each guest is known;");
        ChairSmells y = Edges.house("11o;22o;11o", "90.;80.;70.", 0, 0, 0, 0, 0, 1, 0, 1, 1, 0, 2, 2);
        e.due("known", y.known(0), 0b110);
        e.due("known, where nothing tells", Check.house("11o", "90.").known(0), 0);
    }

    private static void chances(Edges e) {
        e.says(27, "draughts by chance, exactly;");
        ChairSmells x = Edges.house("11o", "90.;32.", 0, 0, 0);
        e.due("above, three fourths ten times", x.draughts(4, 0, 0, 9, 0), 59_049);
        e.due("below, three fourths ten times", x.draughts(4, 0, 0, 9, 1), 1_048_576);
        ChairSmells y = Edges.house("11o", "90.;32.", 0, 1, 0, 4, 0, 0);
        e.due("above, in two hours", y.draughts(1, 0, 1, 1, 0), 225);
        e.due("below, in two hours", y.draughts(1, 0, 1, 1, 1), 256);
        e.says(28, "a detective who comes at an hour by lot, who is found;");
        e.due("hours by which 1 is found, above", y.found(0b111111, 0, 1, 0), 1);
        e.due("hours by which 1 is found, below", y.found(0b111111, 0, 1, 1), 3);
    }

    private static void days(Edges e) {
        e.says(29, "days by a seed;");
        ChairSmells x = Check.house("11o", "90.;80.;70.");
        int lot = 1103515245 * 7 + 12345;
        e.due("hour 0 by the seed 7", x.day(7, 0, 0), 1 << ((lot >>> 16) % 3));
        e.due("the same day once more", x.day(7, 0, 0), x.day(7, 0, 0));
        e.due("sittings told by it", x.count(4), 0);
    }

    private static void undone(Edges e) {
        e.says(10, "sittings undone.");
        ChairSmells x = Edges.house("33o", "90.;80.", 0, 0, 0, 0, 1, 0);
        e.due("tells", x.tells(0, 0), 3);
        e.due("one is undone", x.back(0), 1);
        e.due("tells, as the last is undone", x.tells(0, 0), 1);
        e.due("the other is undone", x.back(0), 0);
        e.due("tells, as all are undone", x.tells(0, 0), 0);
    }
}
