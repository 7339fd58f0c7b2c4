/** Promises 17 to 25: what is seen, who can have done it, what to book. */
public final class ForetoldTest {
    public static void main(String[] args) {
        looked();
        seen();
        known();
        canBe();
        suspects();
        settled();
        cheapest();
        cheapestOfWhatIsLeft();
        nextSeat();
        nextSeatToBuy();
        followed();
        followedByPurse();
        Check.end();
    }

    /** The detective holds a SEAT in ROOM 1 in MINUTE 0, the liar one in ROOM 3 in MINUTE 0. */
    private static SeenAgain visited() {
        SeenAgain x = Check.houseOf(Check.MANOR);
        x.buy(1, 1, 0);
        x.buy(2, 3, 0);
        return x;
    }

    private static void looked() {
        Check.due("17: no HOUSE, ahead of BAD", new SeenAgain().looked(-1, 9), Check.STATE);
        SeenAgain x = visited();
        Check.due("17: by one", x.looked(2, 0), 7);
        Check.due("17: by another", x.looked(4, 0), 8);
        Check.due("17: by both", x.looked(6, 0), 15);
        Check.due("17: by all", x.looked(15, 0), 15);
        Check.due("17: by who holds none", x.looked(9, 0), 0);
        Check.due("17: by nobody", x.looked(0, 0), 0);
        Check.due("17: another MINUTE", x.looked(15, 1), 0);
        x.curtain(1, 2, 0);
        Check.due("17: a curtain", x.looked(2, 0), 3);
        Check.due("17: no such VISITOR", x.looked(16, 0), Check.BAD);
        Check.due("17: no set", x.looked(-1, 0), Check.BAD);
        Check.due("17: minute 8", x.looked(0, 8), Check.BAD);
        Check.due("17: minute -1", x.looked(0, -1), Check.BAD);
        x = Check.houseOf("h2,1,0;t9;");
        Check.due("17: one VISITOR", x.looked(1, 0), 0);
        Check.due("17: no second one", x.looked(2, 0), Check.BAD);
        x = Check.houseOf("h2,1,0;");
        Check.due("17: no VISITORS", x.looked(0, 0), 0);
        Check.due("17: no first one", x.looked(1, 0), Check.BAD);
    }

    private static void seen() {
        SeenAgain x = visited();
        Check.due("18: through a window", x.seen(2, 0, 0), 0);
        Check.due("18: not there", x.seen(2, 1, 0), Check.NONE);
        Check.due("18: in the ROOM itself", x.seen(4, 1, 0), 3);
        Check.due("18: together", x.seen(6, 1, 0), 3);
        Check.due("18: another MINUTE", x.seen(6, 0, 1), Check.NONE);
        Check.due("18: by nobody", x.seen(0, 0, 0), Check.NONE);
        x.curtain(0, 1, 0);
        Check.due("18: a curtain", x.seen(2, 0, 0), Check.NONE);
        Check.due("18: no such VISITOR", x.seen(16, 0, 0), Check.BAD);
        Check.due("18: no set", x.seen(-1, 0, 0), Check.BAD);
        Check.due("18: person 2", x.seen(2, 2, 0), Check.BAD);
        Check.due("18: person -1", x.seen(2, -1, 0), Check.BAD);
        Check.due("18: minute 8", x.seen(2, 0, 8), Check.BAD);
        Check.due("18: minute -1", x.seen(2, 0, -1), Check.BAD);
    }

    private static void known() {
        SeenAgain x = visited();
        x.buy(2, 0, 7);
        Check.due("19: PERSON 0", x.known(6, 0), 1 + 128);
        Check.due("19: PERSON 1", x.known(6, 1), 1 + 128);
        Check.due("19: by one", x.known(2, 1), 0);
        Check.due("19: by nobody", x.known(0, 0), 0);
        Check.due("19: no such VISITOR", x.known(16, 0), Check.BAD);
        Check.due("19: no set", x.known(-1, 0), Check.BAD);
        Check.due("19: person 2", x.known(0, 2), Check.BAD);
        Check.due("19: person -1", x.known(0, -1), Check.BAD);
    }

    private static void canBe() {
        SeenAgain x = visited();
        Check.due("20: SEEN there", x.canBe(2, 0, 0, 0), 1);
        Check.due("20: SEEN elsewhere", x.canBe(2, 0, 1, 0), 0);
        Check.due("20: SEEN elsewhere, not LOOKED into", x.canBe(2, 0, 3, 0), 0);
        Check.due("20: not SEEN, LOOKED into", x.canBe(2, 1, 0, 0), 0);
        Check.due("20: not SEEN, not LOOKED into", x.canBe(2, 1, 3, 0), 1);
        Check.due("20: by nobody", x.canBe(0, 1, 0, 0), 1);
        Check.due("20: another MINUTE", x.canBe(2, 1, 0, 1), 1);
        Check.due("20: no such VISITOR", x.canBe(16, 0, 0, 0), Check.BAD);
        Check.due("20: no set", x.canBe(-1, 0, 0, 0), Check.BAD);
        Check.due("20: person 2", x.canBe(0, 2, 0, 0), Check.BAD);
        Check.due("20: person -1", x.canBe(0, -1, 0, 0), Check.BAD);
        Check.due("20: room 4", x.canBe(0, 0, 4, 0), Check.BAD);
        Check.due("20: room -1", x.canBe(0, 0, -1, 0), Check.BAD);
        Check.due("20: minute 8", x.canBe(0, 0, 0, 8), Check.BAD);
        Check.due("20: minute -1", x.canBe(0, 0, 0, -1), Check.BAD);
    }

    private static void suspects() {
        Check.due("21: no HOUSE, ahead of BAD", new SeenAgain().suspects(-1, 9, 256), Check.STATE);
        SeenAgain x = visited();
        Check.due("21: SEEN there", x.suspects(2, 0, 1), 1);
        Check.due("21: not SEEN", x.suspects(2, 3, 1), 2);
        Check.due("21: nobody can", x.suspects(2, 1, 1), 0);
        Check.due("21: in one of these", x.suspects(2, 1, 3), 3);
        Check.due("21: no MINUTES", x.suspects(2, 3, 0), 0);
        Check.due("21: by nobody", x.suspects(0, 3, 255), 3);
        Check.due("21: no such VISITOR", x.suspects(16, 0, 1), Check.BAD);
        Check.due("21: no set", x.suspects(-1, 0, 1), Check.BAD);
        Check.due("21: room 4", x.suspects(0, 4, 1), Check.BAD);
        Check.due("21: room -1", x.suspects(0, -1, 1), Check.BAD);
        Check.due("21: no such MINUTE", x.suspects(0, 0, 256), Check.BAD);
        Check.due("21: no set of MINUTES", x.suspects(0, 0, -1), Check.BAD);
        x = Check.houseOf("h2,1,0;t9;");
        Check.due("21: without PEOPLE", x.suspects(1, 0, 255), 0);
    }

    private static void settled() {
        Check.due("22: no HOUSE, ahead of BAD", new SeenAgain().settled(8), Check.STATE);
        SeenAgain x = Check.houseOf(Check.MANOR);
        Check.due("22: ROOM 3 may be left out", x.settled(0), 2);
        x.curtain(0, 1, 0);
        Check.due("22: two, the least set", x.settled(0), 3);
        Check.due("22: another MINUTE", x.settled(1), 2);
        Check.due("22: minute 8", x.settled(8), Check.BAD);
        Check.due("22: minute -1", x.settled(-1), Check.BAD);
        Check.due("22: two ROOMS", Check.houseOf("h2,1,0;").settled(0), 1);
        Check.due("22: six apart", Check.houseOf("h6,1,0;").settled(7), 31);
        // {4} alone leaves out one; {0, 1, 2} is a lesser set, but of more ROOMS.
        Check.due("22: fewest ahead of least", Check.houseOf("h5,1,0;g4,3;g4,2;g4,1;").settled(0), 16);
    }

    private static void cheapest() {
        SeenAgain x = Check.houseOf(Check.MANOR);
        Check.due("23: a detective's", x.cheapest(1, 0, 0), 2);
        Check.due("23: a detective's costs", x.cheapest(1, 0, 1), 3);
        // For the heir ROOM 0 is free: {0, 2} costs as much as {1}.
        Check.due("23: of like cost the least set", x.cheapest(0, 0, 0), 2);
        Check.due("23: costs", x.cheapest(0, 0, 1), 5);
        x.buy(0, 2, 0);
        Check.due("23: what he holds is free", x.cheapest(0, 0, 0), 5);
        Check.due("23: it costs nothing", x.cheapest(0, 0, 1), 0);
        Check.due("23: not for others", x.cheapest(2, 0, 0), 2);
        Check.due("23: visitor 4", x.cheapest(4, 0, 0), Check.BAD);
        Check.due("23: visitor -1", x.cheapest(-1, 0, 0), Check.BAD);
        Check.due("23: minute 8", x.cheapest(0, 8, 0), Check.BAD);
        Check.due("23: minute -1", x.cheapest(0, -1, 0), Check.BAD);
        Check.due("23: what 2", x.cheapest(0, 0, 2), Check.BAD);
        Check.due("23: what -1", x.cheapest(0, 0, -1), Check.BAD);
        Check.due("23: no HOUSE", new SeenAgain().cheapest(0, 0, 0), Check.BAD);
    }

    private static void cheapestOfWhatIsLeft() {
        SeenAgain x = Check.houseOf(Check.MANOR);
        x.buy(1, 1, 0);
        Check.due("23: PRICES as they are", x.cheapest(2, 0, 1), 8);
        x.buy(2, 1, 0);
        Check.due("23: no ROOM without a SEAT left", x.cheapest(3, 0, 0), 5);
        Check.due("23: added", x.cheapest(3, 0, 1), 10);
        Check.due("23: but what he holds", x.cheapest(2, 0, 0), 2);
        Check.due("23: but what he holds", x.cheapest(2, 0, 1), 0);
        x = Check.houseOf("h2,1,20;t0;d99;");
        Check.due("23: whatever the PURSE", x.cheapest(0, 0, 1), 20);
        x.buy(1, 0, 0);
        Check.due("23: one is left", x.cheapest(0, 0, 0), 2);
        x.buy(1, 1, 0);
        Check.due("23: none is left", x.cheapest(0, 0, 0), Check.NONE);
        Check.due("23: none is left", x.cheapest(0, 0, 1), Check.NONE);
        Check.due("23: he holds them", x.cheapest(1, 0, 0), 1);
        x = Check.houseOf("h6,5,0;t9;t9;");
        for (int i = 0; i < 24; i++) {
            x.buy(0, i % 6, i / 6);
        }
        Check.due("23: whatever is held in all", x.cheapest(1, 7, 0), 31);
        Check.due("23: whatever is held in all", x.cheapest(1, 0, 1), 5);
    }

    private static void nextSeat() {
        SeenAgain x = Check.houseOf(Check.MANOR);
        Check.due("24: fewest, the first", x.nextSeat(1, 3, 1), 0);
        // In MINUTE 1 a SEAT in ROOM 0 leaves PERSON 0 alone under suspicion.
        Check.due("24: fewest, later", x.nextSeat(1, 0, 2), 6);
        // From ROOM 1 all of 0, 1, 2 is seen, and PERSON 0 there: ROOM 2 is clear, and so it is from no lesser SEAT.
        Check.due("24: a ROOM behind a window", x.nextSeat(1, 2, 1), 1);
        Check.due("24: no MINUTES", x.nextSeat(1, 0, 0), 0);
        Run manor = new Run().told(Check.MANOR).then(y -> y.buy(2, 1, 0), y -> y.drop(0));
        Check.stays("24: nothing changes", manor, y -> y.nextSeat(1, 0, 254), 0);
        x.buy(2, 1, 0);
        Check.due("24: by him alone", x.nextSeat(1, 2, 1), 1);
        Check.due("24: visitor 4", x.nextSeat(4, 0, 1), Check.BAD);
        Check.due("24: visitor -1", x.nextSeat(-1, 0, 1), Check.BAD);
        Check.due("24: room 4", x.nextSeat(0, 4, 1), Check.BAD);
        Check.due("24: room -1", x.nextSeat(0, -1, 1), Check.BAD);
        Check.due("24: no such MINUTE", x.nextSeat(0, 0, 256), Check.BAD);
        Check.due("24: no set of MINUTES", x.nextSeat(0, 0, -1), Check.BAD);
        Check.due("24: no HOUSE", new SeenAgain().nextSeat(0, 0, 0), Check.BAD);
    }

    private static void nextSeatToBuy() {
        SeenAgain x = Check.houseOf(Check.MANOR);
        x.buy(1, 0, 0);
        Check.due("24: not what he holds", x.nextSeat(1, 0, 0), 1);
        x.buy(2, 1, 0);
        x.buy(3, 1, 0);
        Check.due("24: not what is sold", x.nextSeat(1, 0, 0), 2);
        x.buy(1, 2, 0);
        x.buy(1, 3, 0);
        Check.due("24: not beyond the PURSE", x.nextSeat(1, 0, 0), Check.NONE);
        x.write(6);
        x.back(1, 3, 0);
        Check.due("24: the PURSE is as much", x.visitor(1, 0), 3);
        Check.due("24: the PURSE is as much", x.nextSeat(1, 0, 0), 3);
        String all = "r0,0,0,0,0,0,0,0;";
        Check.due("24: all four", Check.houseOf("h2,1,0;" + all + all + all + all + "t9;").nextSeat(0, 0, 255), 0);
        x = Check.houseOf("h2,2,4;t3;");
        x.write(6);
        Check.due("24: only what he can pay", x.nextSeat(0, 0, 255), 36);
        x = Check.houseOf("h6,5,0;t9;");
        for (int i = 0; i < 24; i++) {
            x.buy(0, i % 6, i / 6);
        }
        Check.due("24: none is left in all", x.nextSeat(0, 0, 255), Check.NONE);
    }

    private static void followed() {
        SeenAgain x = Check.houseOf(Check.MANOR);
        Check.due("25: a detective, as far as 9", x.followed(1, 0, 0), 3);
        Check.due("25: the first of several", x.followed(1, 0, 1), 0);
        Check.due("25: an heir, PERSON 0", x.followed(0, 0, 0), 8);
        Check.due("25: an heir, PERSON 1", x.followed(0, 1, 0), 6);
        Check.due("25: from MINUTE 2 on", x.followed(0, 1, 1), 2);
        x.buy(2, 3, 2);
        x.buy(3, 3, 2);
        Check.due("25: no SEAT left in MINUTE 2", x.followed(0, 1, 0), 5);
        Check.due("25: from MINUTE 3 on", x.followed(0, 1, 1), 3);
        Check.due("25: who holds one sees", x.followed(2, 1, 0), 4);
        Check.due("25: visitor 4", x.followed(4, 0, 0), Check.BAD);
        Check.due("25: visitor -1", x.followed(-1, 0, 0), Check.BAD);
        Check.due("25: person 2", x.followed(0, 2, 0), Check.BAD);
        Check.due("25: person -1", x.followed(0, -1, 0), Check.BAD);
        Check.due("25: what 2", x.followed(0, 0, 2), Check.BAD);
        Check.due("25: what -1", x.followed(0, 0, -1), Check.BAD);
        Check.due("25: no HOUSE", new SeenAgain().followed(0, 0, 0), Check.BAD);
    }

    private static void followedByPurse() {
        SeenAgain x = Check.houseOf("h3,2,5;g0,1;r0,0,0,0,0,0,0,0;t10;t99;");
        Check.due("25: for no more than the PURSE", x.followed(0, 0, 0), 2);
        x.buy(1, 0, 0);
        Check.due("25: the cheapest that sees", x.followed(0, 0, 0), 2);
        Check.due("25: the cheapest that sees", x.followed(0, 0, 1), 0);
        x.buy(0, 1, 4);
        Check.due("25: what he sees is free", x.followed(0, 0, 0), 2);
        Check.due("25: from MINUTE 3 on", x.followed(0, 0, 1), 3);
        x.curtain(0, 1, 4);
        Check.due("25: a curtain, ROOM 0 alone", x.followed(0, 0, 0), 1);
        Check.due("25: from MINUTE 0 on", x.followed(0, 0, 1), 0);
        x = Check.houseOf("h2,1,20;r0,0,0,0,0,0,0,0;t19;");
        Check.due("25: 0 MINUTES", x.followed(0, 0, 0), 0);
        Check.due("25: NONE", x.followed(0, 0, 1), Check.NONE);
        x = Check.houseOf("h6,5,0;r0,0,0,0,0,0,0,0;t9;");
        for (int i = 0; i < 24; i++) {
            x.buy(0, 1 + i % 5, i / 5);
        }
        Check.due("25: whatever is held in all", x.followed(0, 0, 0), 8);
    }
}
