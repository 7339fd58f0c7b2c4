/** Promises 17 to 25: the first and the last ROOM and MINUTE, all and nobody, just enough, of several the one. */
public final class BookingTest {
    public static void main(String[] args) {
        lookedTogether();
        seenAtTheEnds();
        knownAll();
        canBeOrNot();
        suspectsOfAll();
        oneIsLeftOut();
        fewest();
        cheapest();
        cheapestOfLikeCost();
        next();
        nextOfSeveral();
        nextSettles();
        followedForPurse();
        followedFree();
        followedBySeatsLeft();
        followedOfSeveral();
        Check.end();
    }

    /** Four VISITORS, each in a ROOM of his own in MINUTE 7: each set of them. */
    private static void lookedTogether() {
        Run run = new Run().told("h6,1,0;g4,5;t0;t0;t0;t0;")
            .times(4, (x, i) -> x.buy(i, i + 1, 7)).then(x -> x.drop(0));
        int[] alone = {2, 4, 8, 16 + 32};
        for (int set = 0; set < 16; set++) {
            int due = 0;
            for (int i = 0; i < 4; i++) {
                due |= (set >> i & 1) * alone[i];
            }
            int one = set;
            Check.stays("17: the set " + set, run, x -> x.looked(one, 7), due);
            Check.stays("17: not in MINUTE 6, " + set, run, x -> x.looked(one, 6), 0);
            Run curtain = run.then(x -> x.curtain(5, 4, 7), x -> x.looked(one, 7));
            Check.due("17: a curtain, " + set, curtain.last(), due & ~32);
            Run other = run.then(x -> x.curtain(5, 4, 6), x -> x.looked(one, 7));
            Check.due("17: a curtain in MINUTE 6, " + set, other.last(), due);
        }
        Check.stays("17: no fifth one", run, x -> x.looked(16, 7), Check.BAD);
        Check.stays("17: nor with others", run, x -> x.looked(31, 7), Check.BAD);
        Check.due("17: all six ROOMS", new Run().told("h6,1,0;g0,1;g0,2;g0,3;g0,4;g0,5;t0;")
            .then(x -> x.buy(0, 0, 0), x -> x.looked(1, 0)).last(), 63);
    }

    /** VISITOR 3 and PERSON 3 in ROOM 5 in MINUTE 7; VISITOR 0 and PERSON 0 in ROOM 0 in MINUTE 0. */
    private static final Run ENDS = new Run()
        .told("h6,1,0;r0,5,5,5,5,5,5,5;r1,1,1,1,1,1,1,1;r1,1,1,1,1,1,1,1;r0,0,0,0,0,0,0,5;t0;t0;t0;t0;")
        .then(x -> x.buy(0, 0, 0), x -> x.buy(3, 5, 7), x -> x.drop(0));

    private static void seenAtTheEnds() {
        Check.stays("18: in the first ROOM and MINUTE", ENDS, x -> x.seen(1, 0, 0), 0);
        Check.stays("18: PERSON 3, too", ENDS, x -> x.seen(1, 3, 0), 0);
        Check.stays("18: in the last ROOM and MINUTE", ENDS, x -> x.seen(8, 3, 7), 5);
        Check.stays("18: PERSON 0, too", ENDS, x -> x.seen(15, 0, 7), 5);
        Check.stays("18: not by the one", ENDS, x -> x.seen(8, 0, 0), Check.NONE);
        Check.stays("18: nor by the other", ENDS, x -> x.seen(7, 3, 7), Check.NONE);
        Check.stays("18: not in another MINUTE", ENDS, x -> x.seen(15, 3, 6), Check.NONE);
        Check.stays("18: not in another ROOM", ENDS, x -> x.seen(15, 1, 7), Check.NONE);
        Check.stays("18: by nobody", ENDS, x -> x.seen(0, 0, 0), Check.NONE);
    }

    private static void knownAll() {
        Check.stays("19: the first and the last MINUTE", ENDS, x -> x.known(15, 0), 129);
        Check.stays("19: by one", ENDS, x -> x.known(1, 0), 1);
        Check.stays("19: by the other", ENDS, x -> x.known(8, 0), 128);
        Check.stays("19: never", ENDS, x -> x.known(15, 1), 0);
        Check.stays("19: by nobody", ENDS, x -> x.known(0, 0), 0);
        Run glass = new Run().told(Run.GLASS);
        for (int minute = 0; minute < 8; minute++) {
            int one = minute;
            glass = glass.then(x -> x.buy(0, 0, one));
            Check.due("19: all up to " + minute, glass.made().known(1, 3), (2 << minute) - 1);
        }
    }

    private static void canBeOrNot() {
        for (int room = 0; room < 6; room++) {
            int one = room;
            Check.stays("20: SEEN in the last ROOM", ENDS, x -> x.canBe(15, 3, one, 7), room == 5 ? 1 : 0);
            Check.stays("20: not SEEN", ENDS, x -> x.canBe(15, 1, one, 7), room == 5 ? 0 : 1);
            Check.stays("20: SEEN in the first ROOM", ENDS, x -> x.canBe(1, 0, one, 0), room == 0 ? 1 : 0);
            Check.stays("20: not SEEN", ENDS, x -> x.canBe(1, 1, one, 0), room == 0 ? 0 : 1);
            Check.stays("20: by nobody", ENDS, x -> x.canBe(0, 0, one, 0), 1);
            Check.stays("20: not LOOKED into then", ENDS, x -> x.canBe(15, 0, one, 3), 1);
        }
    }

    private static void suspectsOfAll() {
        Check.stays("21: all four", ENDS, x -> x.suspects(0, 5, 255), 15);
        Check.stays("21: MINUTE 7 alone", ENDS, x -> x.suspects(15, 5, 128), 9);
        Check.stays("21: MINUTE 7, elsewhere", ENDS, x -> x.suspects(15, 1, 128), 6);
        Check.stays("21: MINUTE 0 alone", ENDS, x -> x.suspects(15, 0, 1), 9);
        Check.stays("21: one of two", ENDS, x -> x.suspects(15, 5, 128 + 64), 15);
        Check.stays("21: one of the others", ENDS, x -> x.suspects(7, 5, 128), 15);
        Check.stays("21: no MINUTES", ENDS, x -> x.suspects(0, 5, 0), 0);
        Run seen = new Run().told("h2,1,0;r0,0,0,0,0,0,0,0;t0;").times(8, (x, minute) -> x.buy(0, 0, minute));
        Check.due("21: SEEN elsewhere in all", seen.made().suspects(1, 1, 255), 0);
        Check.due("21: SEEN there in all", seen.made().suspects(1, 0, 255), 1);
    }

    /** A hub with windows to all but one, all but two, all: one ROOM may be left out, two may not. */
    private static void oneIsLeftOut() {
        String hub = "h6,1,0;g5,0;g5,1;g5,2;";
        Check.due("22: two are left out", new Run().told(hub).made().settled(0), 8 + 32);
        Check.due("22: one is", new Run().told(hub + "g5,3;").made().settled(0), 32);
        Check.due("22: none is", new Run().told(hub + "g5,3;g5,4;").made().settled(0), 32);
        Run all = new Run().told(hub + "g5,3;g5,4;");
        Check.due("22: a curtain", all.then(x -> x.curtain(5, 0, 7), x -> x.settled(7)).last(), 32);
        Check.due("22: two", all.then(x -> x.curtain(5, 0, 7), x -> x.curtain(5, 1, 7), x -> x.settled(7)).last(),
            1 + 32);
        Check.due("22: another MINUTE", all.then(x -> x.curtain(5, 0, 7), x -> x.curtain(5, 1, 7), x -> x.settled(6))
            .last(), 32);
        Run two = new Run().told("h2,1,0;g0,1;");
        Check.due("22: two ROOMS, the least", two.made().settled(0), 1);
        Check.due("22: two ROOMS apart", two.then(x -> x.curtain(0, 1, 0), x -> x.settled(0)).last(), 1);
        Check.due("22: three ROOMS apart", new Run().told("h3,1,0;").made().settled(7), 3);
    }

    private static void fewest() {
        // {0, 3}, {1, 2} and {1, 3} would do as well as {0, 2}.
        Check.due("22: of several the least", new Run().told("h5,1,0;g0,1;g2,3;").made().settled(0), 1 + 4);
        // {0, 1, 2} is a lesser set than {0, 4}, but of more ROOMS.
        Check.due("22: fewest ahead of least", new Run().told("h6,1,0;g5,0;g5,1;g4,2;g4,3;").made().settled(0), 1 + 16);
        Run free = new Run().told("h2,1,20;t0;").then(x -> x.buy(0, 0, 0), x -> x.drop(0));
        Check.stays("22: whatever it costs", free, x -> x.settled(0), 1);
        Run sold = new Run().told("h2,1,0;t0;").then(x -> x.buy(0, 0, 0), x -> x.drop(0));
        Check.stays("22: sold out or not", sold, x -> x.settled(0), 1);
    }

    private static void cheapest() {
        Run hub = new Run().told("h3,2,9;g2,0;g2,1;r0,0,0,0,0,0,0,0;a0;t0;d0;w99;").then(x -> x.drop(0));
        // For the heir ROOM 0 is free, and with ROOM 0 there must be ROOM 1 or 2; ROOM 0 sees ROOM 2, and leaves out 1.
        Check.stays("23: one is left out", hub, x -> x.cheapest(0, 0, 0), 1);
        Check.stays("23: nothing", hub, x -> x.cheapest(0, 0, 1), 0);
        Check.stays("23: whatever the PURSE", hub, x -> x.cheapest(1, 7, 1), 9);
        Check.stays("23: a detective", hub, x -> x.cheapest(2, 7, 1), 4);
        Run dear = hub.then(x -> x.buy(3, 0, 7), x -> x.drop(0));
        Check.stays("23: PRICES as they are", dear, x -> x.cheapest(1, 7, 0), 2);
        Check.stays("23: what he holds is free", dear, x -> x.cheapest(3, 7, 0), 1);
        Check.stays("23: what he holds is free", dear, x -> x.cheapest(3, 7, 1), 0);
        Check.stays("23: another MINUTE", dear, x -> x.cheapest(3, 6, 1), 8);
        Run apart = new Run().told("h4,1,5;t0;t99;t99;");
        Check.due("23: added", apart.made().cheapest(0, 0, 1), 15);
        Run one = apart.then(x -> x.buy(1, 1, 0));
        Check.due("23: without one", one.made().cheapest(0, 0, 0), 13);
        Check.due("23: but with what he holds", one.made().cheapest(1, 0, 0), 7);
        Check.due("23: at the PRICES of the rest", one.made().cheapest(1, 0, 1), 10);
        Run two = one.then(x -> x.buy(2, 3, 0));
        Check.due("23: two are sold", two.made().cheapest(0, 0, 0), Check.NONE);
        Check.due("23: two are sold", two.made().cheapest(0, 0, 1), Check.NONE);
        Check.due("23: one of them his", two.made().cheapest(1, 0, 0), 7);
        Check.due("23: one of them his", two.made().cheapest(2, 0, 0), 13);
        Check.due("23: another MINUTE", two.made().cheapest(0, 1, 0), 7);
        Check.due("23: written down", two.then(x -> x.write(1), x -> x.cheapest(0, 1, 1)).last(), 9);
    }

    /** The least set, even if it has more ROOMS; at no cost, too. */
    private static void cheapestOfLikeCost() {
        String fan = ";g4,3;g4,2;g4,1;";
        Check.due("23: of like cost the least", new Run().told("h5,1,0" + fan + "t0;").made().cheapest(0, 0, 0), 7);
        Check.due("22: the fewest there", new Run().told("h5,1,0" + fan + "t0;").made().settled(0), 16);
        Check.due("23: of less cost", new Run().told("h5,1,1" + fan + "t0;").made().cheapest(0, 0, 0), 16);
        Check.due("23: it costs", new Run().told("h5,1,1" + fan + "t0;").made().cheapest(0, 0, 1), 1);
        Check.due("23: nothing for a writer", new Run().told("h5,1,1" + fan + "w0;").made().cheapest(0, 0, 0), 7);
        Check.due("23: the last ROOM for a liar", new Run().told("h5,1,0" + fan + "l0;").made().cheapest(0, 0, 0), 16);
        Check.due("23: five of six", new Run().told("h6,1,20;l0;").made().cheapest(0, 7, 1), 105);
    }

    private static void next() {
        Run last = new Run().told("h6,1,2;r0,0,0,0,0,0,0,0;t0;t99;").then(x -> x.write(7))
            .times(5, (x, room) -> x.buy(1, room, 7));
        Check.due("24: the last SEAT", last.then(x -> x.drop(0)).made().nextSeat(0, 0, 255), 47);
        Check.due("24: NONE is left", last.then(x -> x.buy(1, 5, 7), x -> x.nextSeat(0, 0, 255)).last(), Check.NONE);
        Run own = new Run().told("h2,1,0;t0;").times(16, (x, i) -> x.buy(0, i % 2, i / 2));
        Check.due("24: he holds them all", own.made().nextSeat(0, 0, 255), Check.NONE);
        Check.due("24: all but the last", own.then(x -> x.back(0, 1, 7), x -> x.nextSeat(0, 0, 255)).last(), 43);
        Check.due("24: the PURSE is 1 less", new Run().told("h2,1,9;t8;").made().nextSeat(0, 0, 255), Check.NONE);
        Check.due("24: the PURSE is as much", new Run().told("h2,1,9;t9;").made().nextSeat(0, 0, 255), 0);
        Run sold = new Run().told("h6,5,0;t0;t0;").times(23, (x, i) -> x.buy(1, i % 6, i / 6));
        Check.due("24: one is left in all", sold.made().nextSeat(0, 0, 255), 23);
        Check.due("24: none is left in all", sold.then(x -> x.buy(1, 5, 3), x -> x.nextSeat(0, 0, 255)).last(),
            Check.NONE);
    }

    /** By MINUTES, then ROOMS; only the MINUTES asked of matter, but a SEAT in any other is one, too. */
    private static void nextOfSeveral() {
        Run run = new Run().told("h3,1,0;r0,0,0,0,0,0,0,0;r2,2,2,2,2,2,2,2;t0;t0;").then(x -> x.drop(0));
        Check.stays("24: all alike, the first", run, x -> x.nextSeat(0, 0, 0), 0);
        // In MINUTE 7 a SEAT in ROOM 1 clears it of both, one in ROOM 0 leaves PERSON 0 under suspicion there.
        Check.stays("24: MINUTE 7", run, x -> x.nextSeat(0, 1, 128), 43);
        Check.stays("24: ROOM 0 in MINUTE 7", run, x -> x.nextSeat(0, 0, 128), 42);
        Check.stays("24: ROOM 2 in MINUTE 7", run, x -> x.nextSeat(0, 2, 128), 42);
        Check.stays("24: of two MINUTES no SEAT clears", run, x -> x.nextSeat(0, 1, 192), 0);
        Run held = run.then(x -> x.buy(0, 1, 6), x -> x.drop(0));
        Check.stays("24: with what he holds", held, x -> x.nextSeat(0, 1, 192), 43);
        Run others = run.then(x -> x.buy(1, 1, 6), x -> x.drop(0));
        Check.stays("24: not with what others hold", others, x -> x.nextSeat(0, 1, 192), 0);
        Check.stays("24: not what others hold", others, x -> x.nextSeat(0, 1, 64), 36);
    }

    private static void nextSettles() {
        Run window = new Run().told("h3,1,0;g1,2;r0,0,0,0,0,0,0,0;r2,2,2,2,2,2,2,2;t0;").then(x -> x.drop(0));
        Check.stays("24: through a window, ROOM 1 is clear", window, x -> x.nextSeat(0, 1, 1), 1);
        Run curtain = window.then(x -> x.curtain(1, 2, 0), x -> x.drop(0));
        Check.stays("24: behind a curtain PERSON 0 is SEEN", curtain, x -> x.nextSeat(0, 2, 1), 0);
        Check.stays("24: ROOM 1 is clear of both from itself alone", curtain, x -> x.nextSeat(0, 1, 1), 1);
    }

    /** Eight MINUTES at FEE 5: for each PURSE as many as it lasts for, and never one more. */
    private static void followedForPurse() {
        for (int purse = 0; purse <= 45; purse++) {
            Run run = new Run().told("h2,1,5;r0,1,0,1,0,1,0,1;t" + purse + ";").then(x -> x.drop(0));
            int most = Math.min(8, purse / 5);
            Check.stays("25: for " + purse, run, x -> x.followed(0, 0, 0), most);
            Check.stays("25: the first for " + purse, run, x -> x.followed(0, 0, 1), most == 0 ? Check.NONE : 0);
        }
    }

    /** What is SEEN already costs nothing, and brings nothing: an empty PURSE stays empty. */
    private static void followedFree() {
        Run run = new Run().told("h2,1,2;r0,0,0,0,0,0,0,0;t6;").times(3, (x, i) -> x.buy(0, 0, 5 + i))
            .then(x -> x.drop(0));
        Check.stays("25: what is SEEN", run, x -> x.followed(0, 0, 0), 3);
        Check.stays("25: from MINUTE 5 on", run, x -> x.followed(0, 0, 1), 5);
        Run more = new Run().told("h2,1,2;r0,0,0,0,0,0,0,0;t7;").times(3, (x, i) -> x.buy(0, 0, i))
            .then(x -> x.drop(0));
        Check.stays("25: 1 is left of 2", more, x -> x.followed(0, 0, 0), 3);
        Check.stays("25: from MINUTE 0 on", more, x -> x.followed(0, 0, 1), 0);
        Run enough = new Run().told("h2,1,2;r0,0,0,0,0,0,0,0;t8;").times(3, (x, i) -> x.buy(0, 0, i + 2))
            .then(x -> x.drop(0));
        Check.stays("25: 2 are left for one more", enough, x -> x.followed(0, 0, 0), 4);
        Check.stays("25: ahead of these, the first", enough, x -> x.followed(0, 0, 1), 1);
        Run all = new Run().told("h2,1,0;r0,0,0,0,0,0,0,1;t0;").then(x -> x.drop(0));
        Check.stays("25: for nothing", all, x -> x.followed(0, 0, 0), 8);
        Run liar = new Run().told("h2,1,0;r0,0,0,0,0,0,0,1;l0;").then(x -> x.drop(0));
        Check.stays("25: no liar for nothing", liar, x -> x.followed(0, 0, 0), 0);
        Check.stays("25: NONE", liar, x -> x.followed(0, 0, 1), Check.NONE);
    }

    /** Where no SEAT is left from which the PERSON is SEEN, nobody follows him; a dearer one is taken if it is left. */
    private static void followedBySeatsLeft() {
        String law = "h3,1,2;g0,1;r0,0,0,0,0,0,0,0;t99;t99;";
        Run one = new Run().told(law).then(x -> x.buy(1, 0, 4), x -> x.drop(0));
        Check.stays("25: through the window", one, x -> x.followed(0, 0, 0), 8);
        Run both = one.then(x -> x.buy(1, 1, 4), x -> x.drop(0));
        Check.stays("25: none is left in MINUTE 4", both, x -> x.followed(0, 0, 0), 4);
        Check.stays("25: of several the first", both, x -> x.followed(0, 0, 1), 0);
        Check.stays("25: who holds them", both, x -> x.followed(1, 0, 0), 8);
        Run curtain = one.then(x -> x.curtain(0, 1, 4), x -> x.drop(0));
        Check.stays("25: the window is behind a curtain", curtain, x -> x.followed(0, 0, 0), 4);
        Run first = new Run().told(law).then(x -> x.buy(1, 0, 0), x -> x.buy(1, 1, 0), x -> x.drop(0));
        Check.stays("25: none in MINUTE 0", first, x -> x.followed(0, 0, 0), 7);
        Check.stays("25: from MINUTE 1 on", first, x -> x.followed(0, 0, 1), 1);
        Run cheap = new Run().told("h3,3,2;g0,1;r0,0,0,0,0,0,0,0;t16;t99;").then(x -> x.buy(1, 0, 0), x -> x.drop(0));
        Check.stays("25: the cheapest of two", cheap, x -> x.followed(0, 0, 0), 8);
    }

    /** The most; of several the first; 1 MINUTE, the last one. */
    private static void followedOfSeveral() {
        Run last = new Run().told("h2,1,4;r0,0,0,0,0,0,0,0;t2;").then(x -> x.write(7), x -> x.drop(0));
        Check.stays("25: the last MINUTE alone", last, x -> x.followed(0, 0, 0), 1);
        Check.stays("25: the last MINUTE alone", last, x -> x.followed(0, 0, 1), 7);
        Run two = last.then(x -> x.write(3), x -> x.drop(0));
        Check.stays("25: of two the first", two, x -> x.followed(0, 0, 1), 3);
        Run most = new Run().told("h2,1,4;r0,0,0,0,0,0,0,0;t4;")
            .then(x -> x.write(3), x -> x.write(6), x -> x.write(7), x -> x.drop(0));
        Check.stays("25: the most, not the first", most, x -> x.followed(0, 0, 0), 2);
        Check.stays("25: the most, not the first", most, x -> x.followed(0, 0, 1), 6);
    }
}
