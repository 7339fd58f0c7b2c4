/** Promises 9 to 16: how many at most, how few at least, and what is just enough. */
public final class LimitsTest {
    private static final String SORTS = "tldwa";

    public static void main(String[] args) {
        prices();
        heirs();
        pricesRiseAndFall();
        justEnough();
        seatsOfALaw();
        seatsInAll();
        halfOfFee();
        actsKept();
        actsOfNoPrice();
        actsUndone();
        allCurtains();
        allWritten();
        views();
        visitors();
        Check.end();
    }

    /** FEE, SEATS held of these, 1 if written down; the PRICE for a tourist, a liar, a detective, a writer. */
    private static void prices() {
        int[][] all = {
            {0, 0, 0, 0, 1, 0, 0}, {0, 1, 0, 1, 2, 0, 0}, {0, 2, 0, 2, 3, 1, 1}, {0, 3, 0, 3, 4, 1, 2},
            {0, 0, 1, 0, 1, 0, 0}, {0, 1, 1, 0, 1, 0, 0}, {0, 2, 1, 0, 1, 0, 0}, {0, 3, 1, 1, 2, 0, 0},
            {1, 0, 0, 1, 2, 0, 0}, {1, 0, 1, 0, 1, 0, 0}, {1, 1, 1, 0, 1, 0, 0}, {1, 2, 1, 1, 2, 0, 0},
            {2, 0, 0, 2, 3, 1, 1}, {2, 0, 1, 0, 1, 0, 0}, {2, 1, 1, 1, 2, 0, 0}, {3, 0, 0, 3, 4, 1, 2},
            {3, 0, 1, 1, 2, 0, 0}, {4, 0, 1, 2, 3, 1, 1}, {5, 0, 0, 5, 6, 2, 4}, {19, 0, 0, 19, 20, 9, 18},
            {20, 0, 0, 20, 21, 10, 19}, {20, 3, 0, 23, 24, 11, 22}, {20, 3, 1, 21, 22, 10, 20}};
        for (int[] row : all) {
            for (int k = 0; k < 5; k++) {
                // Without PEOPLE an heir pays as a writer.
                int price = row[3 + Math.min(k, 3)];
                String text = "h2,5," + row[0] + ";t99;t99;t99;" + SORTS.charAt(k) + "50;";
                Run run = new Run().told(text).times(row[1], (x, i) -> x.buy(i, 1, 7));
                if (row[2] == 1) {
                    run = run.then(x -> x.write(7));
                }
                String what = SORTS.charAt(k) + " at FEE " + row[0] + ", held " + row[1] + ", written " + row[2];
                Check.due("16: " + what, run.made().price(3, 1, 7), price);
                Check.due("10: " + what, run.made().buy(3, 1, 7), price);
                Check.due("10: PURSE, " + what, run.then(x -> x.buy(3, 1, 7), x -> x.visitor(3, 0)).last(), 50 - price);
            }
        }
    }

    /** PERSON 0 is in ROOM 1 in MINUTES 0 and 7 alone, PERSON 1 where he is not. */
    private static void heirs() {
        Run heir = new Run().told("h2,5,9;r1,0,0,0,0,0,0,1;r0,1,1,1,1,1,1,0;a0;t99;").then(x -> x.buy(1, 1, 7));
        for (int minute = 0; minute < 8; minute++) {
            boolean there = minute == 0 || minute == 7;
            Check.due("16: ROOM 1, MINUTE " + minute, heir.made().price(0, 1, minute), there ? 0 : 8);
            Check.due("16: ROOM 0, MINUTE " + minute, heir.made().price(0, 0, minute), there ? 8 : 0);
        }
        Check.due("10: with an empty PURSE", heir.made().buy(0, 1, 7), 0);
        Check.due("10: not elsewhere", heir.made().buy(0, 0, 7), Check.FULL);
        Check.due("16: not PERSON 1", heir.made().price(0, 0, 0), 8);
    }

    /** By what is held of that ROOM and MINUTE, and of no other; by the MINUTE that is written down, and no other. */
    private static void pricesRiseAndFall() {
        Run run = new Run().told("h3,5,9;t99;t99;").then(x -> x.buy(0, 1, 3), x -> x.write(4));
        for (int i = 0; i < 24; i++) {
            int room = i % 3;
            int minute = i / 3;
            int price = room == 1 && minute == 3 ? 10 : minute == 4 ? 7 : 9;
            Check.due("16: ROOM " + room + ", MINUTE " + minute, run.made().price(1, room, minute), price);
            Check.due("16: also for who holds it", run.made().price(0, room, minute), price);
        }
        Check.due("16: given back", run.then(x -> x.back(0, 1, 3), x -> x.price(1, 1, 3)).last(), 9);
        Check.due("16: undone", run.then(x -> x.undo(), x -> x.price(1, 1, 4)).last(), 9);
    }

    private static void justEnough() {
        for (int fee = 1; fee <= 20; fee++) {
            String law = "h2,5," + fee + ";";
            Run enough = new Run().told(law + "t" + fee + ";").then(x -> x.buy(0, 0, 0));
            Check.due("10: the PURSE is as much", enough.last(), fee);
            Check.due("14: and empty then", enough.made().visitor(0, 0), 0);
            Run less = new Run().told(law + "t" + (fee - 1) + ";").then(x -> x.drop(0));
            Check.stays("10: the PURSE is 1 less", less, x -> x.buy(0, 0, 0), Check.FULL);
        }
        Run liar = new Run().told("h2,1,0;l1;");
        Check.due("10: a liar's 1", liar.then(x -> x.buy(0, 0, 0)).last(), 1);
        Check.due("10: and no other", liar.then(x -> x.buy(0, 0, 0), x -> x.buy(0, 1, 0)).last(), Check.FULL);
        Run tourist = new Run().told("h2,1,0;t0;");
        for (int minute = 0; minute < 8; minute++) {
            int one = minute;
            Check.due("10: nothing for nothing", tourist.then(x -> x.buy(0, 1, one)).last(), 0);
        }
    }

    /** SEATS 1 to 5 in a ROOM by the MINUTE: as many VISITORS, and one more; each one. */
    private static void seatsOfALaw() {
        for (int seats = 1; seats <= 5; seats++) {
            Run run = new Run().told("h2," + seats + ",0;t9;t9;t9;t9;");
            for (int visitor = 0; visitor < 4; visitor++) {
                int one = visitor;
                Check.due("10: " + seats + " SEATS, VISITOR " + visitor, run.made().buy(visitor, 1, 7),
                    visitor < seats ? visitor : Check.FULL);
                run = run.then(x -> x.buy(one, 1, 7));
            }
            Check.due("15: who hold a SEAT", run.made().seat(1, 7, 1), (1 << Math.min(seats, 4)) - 1);
            Check.due("31: sold out", run.made().soldOut(-1), seats <= 4 ? 1 : 0);
            Check.due("10: another MINUTE", run.made().buy(3, 1, 6), 0);
            Check.due("10: another ROOM", run.made().buy(3, 0, 7), 0);
            Check.due("10: he holds one there", run.made().buy(0, 1, 7), Check.STATE);
            Run back = run.then(x -> x.back(0, 1, 7));
            Check.due("10: one is left again", back.made().buy(0, 1, 7), Math.min(seats, 4) - 1);
        }
    }

    private static void seatsInAll() {
        Run run = new Run().told("h6,5,0;t99;t99;t99;t99;");
        for (int i = 0; i < 24; i++) {
            int k = i;
            Check.due("39: held", run.made().count(5), i);
            run = run.then(x -> x.buy(k % 4, k / 4, 7));
            Check.due("10: SEAT " + i + " of 24", run.last(), i % 4);
        }
        Check.due("39: held", run.made().count(5), 24);
        for (int visitor = 0; visitor < 4; visitor++) {
            int one = visitor;
            Check.due("14: SEATS of one", run.made().visitor(visitor, 1), 6);
            Check.due("14: ROOMS of one", run.made().visitor(visitor, 2), 63);
            Check.stays("10: the 25th", run.then(x -> x.drop(0)), x -> x.buy(one, 0, 0), Check.FULL);
        }
        Run back = run.then(x -> x.back(3, 5, 7));
        Check.due("10: one is left in all", back.made().buy(0, 0, 0), 0);
        Check.due("10: and no more", back.then(x -> x.buy(0, 0, 0), x -> x.buy(0, 1, 0)).last(), Check.FULL);
        Check.due("10: undone, one is left", run.then(SeenAgain::undo, x -> x.buy(0, 0, 0)).last(), 0);
    }

    /** Of each FEE; whatever was paid, and beyond 99, too. */
    private static void halfOfFee() {
        for (int fee = 0; fee <= 20; fee++) {
            Run run = new Run().told("h2,5," + fee + ";r0,0,0,0,0,0,0,0;a99;t99;").then(x -> x.buy(0, 0, 7));
            Run back = run.then(x -> x.back(0, 0, 7));
            Check.due("11: half of " + fee, back.last(), 99 + fee / 2);
            Check.due("14: half of " + fee, back.made().visitor(0, 0), 99 + fee / 2);
            Check.due("9: undone, half of " + fee, back.then(SeenAgain::undo).portrait(), run.portrait());
            Run dear = new Run().told("h2,5," + fee + ";t99;t99;").then(x -> x.buy(0, 1, 0), x -> x.buy(1, 1, 0));
            Check.due("11: half of FEE, not of PRICE", dear.made().back(1, 1, 0), 99 - fee - 1 + fee / 2);
            Check.due("11: written down or not", dear.then(x -> x.write(0), x -> x.back(0, 1, 0)).last(),
                99 - fee + fee / 2);
        }
    }

    /** 24 ACTS are kept; of more the oldest is forgotten, and what it did stays done. */
    private static void actsKept() {
        String text = "h6,2,3;g0,1;g0,2;g0,3;g0,4;g0,5;r0,0,0,0,0,0,0,0;t99;";
        Run first = new Run().told(text).then(x -> x.buy(0, 5, 7));
        for (int n = 23; n <= 26; n++) {
            Run run = first.times(n - 1, (x, i) -> x.curtain(0, 1 + i % 5, i / 5));
            Check.due("39: ACTS that can be undone of " + n, run.made().count(7), Math.min(n, 24));
            Run undone = run;
            for (int left = Math.min(n, 24) - 1; left >= 0; left--) {
                undone = undone.then(SeenAgain::undo);
                Check.due("9: yet of " + n, undone.last(), left);
            }
            Check.due("9: no more of " + n, undone.made().undo(), Check.STATE);
            Check.due("9: curtains that stay of " + n, undone.made().count(6), Math.max(0, n - 25));
            Check.due("9: the SEAT stays of " + n, undone.made().count(5), n > 24 ? 1 : 0);
            Check.due("9: the PURSE stays of " + n, undone.made().visitor(0, 0), n > 24 ? 96 : 99);
        }
        // Behind an undoing there is room for one more, and nothing else is forgotten.
        Run full = first.times(23, (x, i) -> x.curtain(0, 1 + i % 5, i / 5));
        Run again = full.then(SeenAgain::undo, x -> x.write(1));
        Check.due("9: 24 again", again.made().count(7), 24);
        Check.due("9: none is forgotten", again.times(24, (x, i) -> x.undo()).made().count(5), 0);
    }

    /** ACTS by which no PURSE becomes another: each is one. */
    private static void actsOfNoPrice() {
        Run run = new Run().told("h2,5,0;t0;").then(x -> x.buy(0, 0, 0));
        Check.due("9: bought for nothing", run.made().count(7), 1);
        Check.due("9: undone", run.then(SeenAgain::undo, x -> x.count(5)).last(), 0);
        Run back = run.then(x -> x.back(0, 0, 0));
        Check.due("11: half of nothing", back.last(), 0);
        Check.due("9: given back for nothing", back.made().count(7), 2);
        Check.due("9: undone", back.then(SeenAgain::undo).portrait(), run.portrait());
        Run written = run.then(x -> x.write(0));
        Check.due("9: written, and no PRICE falls", written.made().count(7), 2);
        Check.due("9: undone, and it can be written", written.then(SeenAgain::undo, x -> x.write(0)).last(), 1);
    }

    /** Each sort of ACT at each end: the first and the last ROOM, MINUTE, VISITOR. */
    private static void actsUndone() {
        Run run = new Run().told("h6,2,5;g0,5;g5,0;g4,5;r0,0,0,0,0,0,0,0;t50;l50;d50;a50;").then(x -> x.write(3));
        Run.Call[] acts = {x -> x.buy(0, 0, 0), x -> x.buy(3, 5, 7), x -> x.buy(0, 5, 7), x -> x.curtain(5, 0, 0),
            x -> x.curtain(0, 5, 7), x -> x.curtain(5, 4, 7), x -> x.write(0), x -> x.write(7), x -> x.back(3, 5, 7),
            x -> x.back(0, 0, 0), x -> x.buy(1, 0, 7), x -> x.buy(2, 0, 7)};
        for (int i = 0; i < acts.length; i++) {
            Run ahead = run;
            run = run.then(acts[i]);
            Check.due("39: an ACT more, " + i, run.made().count(7), i + 2);
            Check.due("9: undone, " + i, run.then(SeenAgain::undo).last(), i + 1);
            Check.due("9: as it was ahead, " + i, run.then(SeenAgain::undo).portrait(), ahead.portrait());
        }
    }

    /** Nine windows in eight MINUTES; behind each curtain the VIEWS from both sides. */
    private static void allCurtains() {
        int[][] windows = {{0, 1}, {0, 2}, {0, 3}, {0, 4}, {0, 5}, {1, 2}, {1, 3}, {1, 4}, {5, 1}};
        StringBuilder text = new StringBuilder("h6,1,0;");
        for (int[] w : windows) {
            text.append('g').append(w[0]).append(',').append(w[1]).append(';');
        }
        Run run = new Run().told(text.toString());
        Check.due("15: all ROOMS", run.made().seat(0, 7, 0), 63);
        Check.due("15: all ROOMS", run.made().seat(1, 0, 0), 63);
        for (int i = 0; i < 72; i++) {
            int[] w = windows[i / 8];
            int minute = i % 8;
            Run ahead = run;
            run = run.then(x -> x.curtain(w[1], w[0], minute));
            Check.due("12: curtain " + i, run.last(), i + 1);
            Check.due("39: curtains", run.made().count(6), i + 1);
            Check.due("12: it was drawn", run.made().curtain(w[0], w[1], minute), Check.STATE);
            for (int room : w) {
                int other = 1 << w[0] + w[1] - room;
                Check.due("15: the VIEW from " + room, run.made().seat(room, minute, 0),
                    ahead.made().seat(room, minute, 0) - other);
            }
        }
        for (int i = 0; i < 48; i++) {
            Check.due("15: that ROOM alone", run.made().seat(i % 6, i / 6, 0), 1 << i % 6);
        }
        Check.due("22: five of six", run.made().settled(7), 31);
    }

    private static void allWritten() {
        Run run = new Run().told("h2,1,9;t9;");
        for (int minute = 0; minute < 8; minute++) {
            int one = 7 - minute;
            run = run.then(x -> x.write(one));
            Check.due("13: MINUTES that are", run.last(), minute + 1);
            Check.stays("13: it was", run.then(x -> x.drop(0)), x -> x.write(one), Check.STATE);
            Check.due("13: how many ACTS", run.made().count(7), minute + 1);
        }
        for (int minute = 7; minute >= 0; minute--) {
            run = run.then(SeenAgain::undo);
            Check.due("9: undone", run.last(), minute);
            Check.due("16: as it was", run.made().price(0, 0, 7 - minute), 9);
            Check.due("16: MINUTE 7 is the last", run.made().price(0, 0, 7), minute > 0 ? 7 : 9);
        }
    }

    /** Who holds a SEAT, and who was there: all four, in the last ROOM and MINUTE. */
    private static void views() {
        String there = "r0,0,0,0,0,0,0,5;";
        Run run = new Run().told("h6,4,0;" + there.repeat(4) + "t9;t9;t9;t9;").times(4, (x, i) -> x.buy(i, 5, 7));
        Check.due("15: all hold one", run.made().seat(5, 7, 1), 15);
        Check.due("15: none there", run.made().seat(4, 7, 1), 0);
        Check.due("15: none then", run.made().seat(5, 6, 1), 0);
        Check.due("15: all were there", run.made().seat(5, 7, 2), 15);
        Check.due("15: all were there", run.made().seat(0, 6, 2), 15);
        Check.due("15: nobody was there", run.made().seat(5, 6, 2), 0);
        Check.due("15: nobody was there", run.made().seat(0, 7, 2), 0);
    }

    private static void visitors() {
        Run run = new Run().told("h6,1,0;g5,4;t0;t99;").then(x -> x.buy(1, 0, 0), x -> x.buy(1, 5, 7));
        Check.due("14: PURSE 0", run.made().visitor(0, 0), 0);
        Check.due("14: PURSE 99", run.made().visitor(1, 0), 99);
        Check.due("14: SEATS 0", run.made().visitor(0, 1), 0);
        Check.due("14: SEATS 2", run.made().visitor(1, 1), 2);
        Check.due("14: ROOMS of none", run.made().visitor(0, 2), 0);
        Check.due("14: ROOMS of the first and the last MINUTE", run.made().visitor(1, 2), 1 + 16 + 32);
        Check.due("14: behind a curtain", run.then(x -> x.curtain(4, 5, 7), x -> x.visitor(1, 2)).last(), 1 + 32);
        Check.due("14: a curtain then", run.then(x -> x.curtain(4, 5, 6), x -> x.visitor(1, 2)).last(), 1 + 16 + 32);
        Check.due("14: given back", run.then(x -> x.back(1, 5, 7), x -> x.visitor(1, 2)).last(), 1);
    }
}
