/** Promises 26 to 39: the first and the last, all and none, and what IMAGES keep of each. */
public final class SoldTest {
    private static final String FOUR = "h6,4,0;g0,1;g4,5;r0,1,2,3,4,5,5,5;r0,1,2,3,4,5,5,5;t99;l99;d99;w99;";

    public static void main(String[] args) {
        crowds();
        tellsOfLiars();
        believedByMost();
        meetings();
        soldOutByNumber();
        hauntedOfSeveral();
        imagesKeepAll();
        imagesApart();
        kinds();
        asks();
        counts();
        Check.end();
    }

    private static void crowds() {
        Run all = new Run().told(FOUR).times(4, (x, i) -> x.buy(i, 5, 7)).then(x -> x.drop(0));
        for (int visitor = 0; visitor < 4; visitor++) {
            int one = visitor;
            Check.stays("26: all other ones", all, x -> x.crowd(one, 7), 15 - (1 << visitor));
            Check.stays("26: not in MINUTE 6", all, x -> x.crowd(one, 6), 0);
        }
        Run alone = new Run().told(FOUR).then(x -> x.buy(0, 0, 0), x -> x.buy(1, 2, 0), x -> x.drop(0));
        Check.stays("26: nobody else", alone, x -> x.crowd(0, 0), 0);
        Check.stays("26: who holds none", alone, x -> x.crowd(2, 0), 0);
        Run window = alone.then(x -> x.buy(3, 1, 0), x -> x.drop(0));
        Check.stays("26: through a window", window, x -> x.crowd(0, 0), 8);
        Check.stays("26: and the other way", window, x -> x.crowd(3, 0), 1);
        Run curtain = window.then(x -> x.curtain(1, 0, 0), x -> x.drop(0));
        Check.stays("26: not through a curtain", curtain, x -> x.crowd(0, 0), 0);
        Check.stays("26: nor the other way", curtain, x -> x.crowd(3, 0), 0);
        Run later = window.then(x -> x.curtain(1, 0, 1), x -> x.drop(0));
        Check.stays("26: a curtain in another MINUTE", later, x -> x.crowd(0, 0), 8);
    }

    /** PERSON 0 is in ROOM 0 to 5 in MINUTES 0 to 5: the next one of each, and 0 behind the last. */
    private static void tellsOfLiars() {
        Run run = new Run().told(FOUR).times(6, (x, i) -> x.buy(1, i, i)).times(6, (x, i) -> x.buy(0, i, i));
        for (int minute = 0; minute < 6; minute++) {
            Check.due("27: a liar, ROOM " + minute, run.made().told(1, 0, minute), minute == 5 ? 0 : minute + 1);
            Check.due("27: a tourist, ROOM " + minute, run.made().told(0, 1, minute), minute);
            Check.due("27: not SEEN by a writer", run.made().told(3, 0, minute), Check.NONE);
            Check.due("28: of two the least", run.made().believed(0, minute), minute == 5 ? 0 : minute);
        }
        Check.due("27: not SEEN", run.made().told(1, 0, 6), Check.NONE);
        Check.due("28: NONE", run.made().believed(0, 6), Check.NONE);
        Run two = new Run().told("h2,1,0;r1,1,1,1,1,1,1,1;l9;").then(x -> x.buy(0, 1, 7));
        Check.due("27: behind the last of two", two.made().told(0, 0, 7), 0);
        Check.due("28: a liar is believed", two.made().believed(0, 7), 0);
    }

    private static void believedByMost() {
        String there = "h6,4,0;r5,5,5,5,4,4,4,4;r4,4,4,4,5,5,5,5;";
        Run liars = new Run().told(there + "l9;l9;l9;t9;").times(4, (x, i) -> x.buy(i, 5, 0));
        Check.due("28: three to one", liars.made().believed(0, 0), 0);
        Check.due("28: who was elsewhere", liars.made().believed(1, 0), Check.NONE);
        Run even = new Run().told(there + "l9;l9;t9;d9;").times(4, (x, i) -> x.buy(i, 5, 0));
        Check.due("28: two to two, the least", even.made().believed(0, 0), 0);
        Run later = new Run().told(there + "l9;l9;t9;d9;").times(4, (x, i) -> x.buy(i, 4, 7));
        Check.due("28: two to two, the least", later.made().believed(0, 7), 4);
        Run most = new Run().told(there + "l9;w9;t9;d9;").times(4, (x, i) -> x.buy(i, 5, 0));
        Check.due("28: three to one, not the least", most.made().believed(0, 0), 5);
    }

    private static void meetings() {
        String one = "r0,1,2,3,4,5,0,1;";
        SeenAgain x = new Run().told("h6,1,0;" + one + one + "r1,2,3,4,5,0,1,2;r0,0,0,0,0,0,1,1;").made();
        Check.due("30: in all MINUTES", x.met(0, 1), 255);
        Check.due("30: in none", x.met(0, 2), 0);
        Check.due("30: in the first and the last", x.met(0, 3), 1 + 128);
        Check.due("30: the other way", x.met(3, 0), 1 + 128);
        Check.due("30: the last two", x.met(2, 3), 32 + 64);
        Check.due("30: alike", x.met(3, 3), Check.BAD);
    }

    /** 24 SEATS of which each is the only one, from the last ROOM and MINUTE backwards: no more can be sold out. */
    private static void soldOutByNumber() {
        Run run = new Run().told("h6,1,0;t0;").times(24, (x, i) -> x.buy(0, 5 - i % 6, 7 - i / 6))
            .then(x -> x.drop(0));
        Check.stays("31: how many", run, x -> x.soldOut(-1), 24);
        for (int i = 0; i < 24; i++) {
            int one = i;
            Check.stays("31: number " + i, run, x -> x.soldOut(one), 24 + i);
        }
        Check.stays("31: number 24", run, x -> x.soldOut(24), Check.NONE);
        Check.stays("31: number 47", run, x -> x.soldOut(47), Check.NONE);
        Check.stays("31: number -2", run, x -> x.soldOut(-2), Check.BAD);
        Run back = run.then(x -> x.back(0, 5, 7));
        Check.due("31: one less", back.made().soldOut(-1), 23);
        Check.due("31: not the last", back.made().soldOut(23), Check.NONE);
        Check.due("31: the last but one", back.made().soldOut(22), 46);
        Run three = new Run().told("h3,2,0;t99;t99;")
            .then(x -> x.buy(0, 0, 0), x -> x.buy(0, 2, 7), x -> x.buy(1, 2, 7));
        Check.due("31: 6 times the MINUTE in a HOUSE of three", three.made().soldOut(0), 44);
        Check.due("31: one of two is left", three.made().soldOut(-1), 1);
        Run others = new Run().told("h6,2,0;t99;t0;").times(24, (x, i) -> x.buy(0, i % 6, i / 6));
        Check.due("31: of these one is left, in all none", others.made().soldOut(-1), 0);
    }

    private static void hauntedOfSeveral() {
        Run run = new Run().told("h6,4,0;t99;t99;t99;t99;").then(x -> x.drop(0));
        Check.stays("32: nothing held", run, SeenAgain::haunted, 0);
        Run last = run.then(x -> x.buy(0, 5, 7), x -> x.drop(0));
        Check.stays("32: the last ROOM and MINUTE", last, SeenAgain::haunted, 47);
        Check.due("32: given back", last.then(x -> x.back(0, 5, 7), SeenAgain::haunted).last(), 0);
        Check.due("32: undone", last.then(SeenAgain::undo, SeenAgain::haunted).last(), 0);
        Check.due("32: by ROOMS", last.then(x -> x.buy(0, 4, 7), SeenAgain::haunted).last(), 46);
        Check.due("32: by MINUTES ahead of ROOMS", last.then(x -> x.buy(0, 4, 7), x -> x.buy(0, 5, 6),
            SeenAgain::haunted).last(), 41);
        Run most = last.then(x -> x.buy(0, 0, 0), x -> x.buy(1, 5, 7));
        Check.due("32: most, not the first", most.then(SeenAgain::haunted).last(), 47);
        Run all = most.times(4, (x, i) -> x.buy(i, 2, 3));
        Check.due("32: all four", all.then(SeenAgain::haunted).last(), 20);
        Run three = new Run().told("h2,1,0;t0;").then(x -> x.buy(0, 1, 1));
        Check.due("32: 6 times the MINUTE in a HOUSE of two", three.then(SeenAgain::haunted).last(), 7);
    }

    /** All that can become another: PURSES, SEATS, curtains, what is written, in the first and the last of all. */
    private static void imagesKeepAll() {
        for (int k = 0; k < 2; k++) {
            int one = k;
            Run kept = new Run(x -> x.row(0, 2, 3)).told(FOUR)
                .times(4, (x, i) -> x.buy(i, 5 - i, 7 - 2 * i)).times(4, (x, i) -> x.buy(i, i, i))
                .then(x -> x.curtain(0, 1, 0), x -> x.curtain(5, 4, 7), x -> x.write(0), x -> x.write(7));
            Check.due("33: kept", kept.then(x -> x.image(one)).last(), 1);
            Run stands = kept.then(x -> x.image(one), x -> x.restore(one));
            Check.due("34: restored", stands.last(), 1);
            Check.due("39: no ACT can be undone", stands.made().count(7), 0);
            Run done = kept.then(x -> x.image(one)).times(8, (x, minute) -> x.curtain(4, 5, minute))
                .times(8, (x, minute) -> x.write(minute)).times(4, (x, i) -> x.back(i, i, i))
                .times(4, (x, i) -> x.back(i, 5 - i, 7 - 2 * i)).times(4, (x, i) -> x.buy(3, i, 4));
            Check.due("34: as it was kept", done.then(x -> x.restore(one)).portrait(), stands.portrait());
            Run other = kept.then(x -> x.image(one)).told(Check.HUT).then(x -> x.write(3));
            Check.due("34: in place of another HOUSE", other.then(x -> x.restore(one)).portrait(), stands.portrait());
            Check.due("34: no ACT of that", other.then(x -> x.restore(one), SeenAgain::undo).last(), Check.STATE);
        }
    }

    /** Two IMAGES, of two HOUSES; what is kept anew is kept in place, and a HOUSE that is read changes neither. */
    private static void imagesApart() {
        Run two = new Run().told(Check.HUT).then(x -> x.image(0)).told("h3,1,7;t5;").then(x -> x.image(1));
        Check.due("34: the one", two.then(x -> x.restore(0), x -> x.count(1)).last(), 2);
        Check.due("34: the other", two.then(x -> x.restore(1), x -> x.count(1)).last(), 3);
        Check.due("34: both", two.then(x -> x.restore(1), x -> x.restore(0), x -> x.count(1)).last(), 2);
        Run anew = two.told("h4,1,0;").then(x -> x.image(0));
        Check.due("33: in place of the one before", anew.then(x -> x.restore(0), x -> x.count(1)).last(), 4);
        Check.due("33: the other stays", anew.then(x -> x.restore(1), x -> x.count(1)).last(), 3);
        Check.due("33: the HOUSE stays", anew.made().count(1), 4);
        Run kept = two.then(x -> x.restore(1), x -> x.image(0), x -> x.write(0), x -> x.restore(0));
        Check.due("33: of what was restored", kept.then(x -> x.price(0, 0, 0)).last(), 7);
        Run fault = two.told("h9");
        Check.due("34: behind a FAULT", fault.then(x -> x.restore(0), x -> x.count(1)).last(), 2);
        Check.due("8: restore() leaves the FAULT", fault.then(x -> x.restore(0), SeenAgain::fault).last(), 2);
        Check.due("6: and the tape", two.fed("h2").then(x -> x.restore(0), x -> x.feed('h')).last(), 3);
        Run acts = two.then(x -> x.write(0), x -> x.image(0));
        Check.due("33: image() leaves the ACTS", acts.made().count(7), 1);
        Check.due("33: and is none", acts.then(SeenAgain::undo).last(), 0);
    }

    /** Each sort in each place. */
    private static void kinds() {
        String sorts = "tldwa";
        for (int k = 0; k < 5; k++) {
            for (int place = 0; place < 4; place++) {
                String text = "h2,1,0;" + "t1;".repeat(place) + sorts.charAt(k) + "2;" + "w3;".repeat(3 - place);
                Check.due("35: " + text, new Run().told(text).made().kind(place), k + 1);
                Check.due("36: " + text, new Run().told(text).made().as(place, k + 1), place);
                Check.due("36: as a VISITOR, " + text, new Run().told(text).made().as(place, 0), place);
            }
        }
    }

    /** SIZE and MARK of VISITOR 3 of each KIND, with PURSE 0 or 99 and no or 24 SEATS. */
    private static void asks() {
        // PURSE, SEATS, then SIZE and MARK of a tourist, a liar, a detective, a writer, an heir.
        int[][] all = {
            {0, 0, 3, 3, -6, 6, -997, -997, -100, 103, -200, 203},
            {99, 0, 102, 3, -105, 6, -898, -997, -1, 4, -2, 5},
            {99, 24, 126, 27, -153, 54, -874, -973, -1, 4, -2, 5}};
        for (int[] row : all) {
            for (int k = 0; k < 5; k++) {
                String law = "h6,5,0;r0,0,0,0,0,0,0,0;t0;t0;t0;";
                // The liar pays 1 for each SEAT, so his PURSE is less.
                int paid = k == 1 ? row[1] : 0;
                Run run = new Run().told(law + "tldwa".charAt(k) + row[0] + ";")
                    .times(row[1], (x, i) -> x.buy(3, i % 6, i / 6));
                Check.due("39: SEATS", run.made().count(5), row[1]);
                Check.due("37: SIZE of KIND " + (k + 1), run.made().ask(3, 0), row[2 + 2 * k] + paid);
                Check.due("37: MARK of KIND " + (k + 1), run.made().ask(3, 1), row[3 + 2 * k]);
            }
        }
        Run again = new Run().told(Check.MANOR).then(x -> x.ask(2, 0), x -> x.ask(3, 0));
        Check.due("38: the latest alone", again.made().trace(0), 13);
        Check.due("38: the latest alone", again.made().trace(1), 10);
        Check.due("38: the latest alone", again.made().trace(2), Check.NONE);
    }

    /** All that there is room for. */
    private static void counts() {
        Run run = new Run().times(8, (x, row) -> x.row(row, 0, 0)).told(Check.CASTLE)
            .times(24, (x, i) -> x.buy(3, i % 6, i / 6)).fed("?".repeat(140));
        // The heir's 99 last for five SEATS at 19, and PERSON 0 was in one ROOM of each MINUTE.
        int[] due = {8, 6, 9, 4, 4, 9, 0, 9, 140};
        for (int what = 0; what < 9; what++) {
            Check.due("39: count(" + what + ")", run.made().count(what), due[what]);
        }
    }
}
