/** Promises 26 to 34: who saw whom, what is told, what is sold, images. */
public final class TalesTest {
    public static void main(String[] args) {
        crowd();
        told();
        believed();
        account();
        met();
        soldOut();
        haunted();
        image();
        restore();
        Check.end();
    }

    private static void crowd() {
        SeenAgain x = Check.houseOf(Check.MANOR);
        x.buy(1, 1, 0);
        x.buy(2, 2, 0);
        x.buy(3, 3, 0);
        x.buy(0, 2, 1);
        Check.due("26: through a window", x.crowd(1, 0), 4);
        Check.due("26: the other way", x.crowd(2, 0), 2);
        Check.due("26: apart", x.crowd(3, 0), 0);
        Check.due("26: another MINUTE", x.crowd(0, 0), 0);
        x.buy(3, 2, 0);
        Check.due("26: his own ROOM, too", x.crowd(2, 0), 2 + 8);
        x.curtain(1, 2, 0);
        Check.due("26: a curtain", x.crowd(2, 0), 8);
        Check.due("26: a curtain", x.crowd(1, 0), 0);
        x.buy(2, 0, 7);
        x.buy(1, 1, 7);
        Check.due("26: ROOM 0", x.crowd(1, 7), 4);
        Check.due("26: visitor 4", x.crowd(4, 0), Check.BAD);
        Check.due("26: visitor -1", x.crowd(-1, 0), Check.BAD);
        Check.due("26: minute 8", x.crowd(0, 8), Check.BAD);
        Check.due("26: minute -1", x.crowd(0, -1), Check.BAD);
    }

    private static void told() {
        SeenAgain x = Check.houseOf(Check.MANOR);
        x.buy(2, 2, 3);
        x.buy(2, 3, 4);
        x.buy(1, 2, 3);
        Check.due("27: a liar tells the next", x.told(2, 0, 3), 3);
        Check.due("27: a liar tells the next", x.told(2, 1, 3), 2);
        Check.due("27: behind the last one 0", x.told(2, 0, 4), 0);
        Check.due("27: a detective tells", x.told(1, 0, 3), 2);
        Check.due("27: not SEEN", x.told(2, 1, 4), Check.NONE);
        Check.due("27: not SEEN by him", x.told(0, 0, 3), Check.NONE);
        Check.due("27: visitor 4", x.told(4, 0, 0), Check.BAD);
        Check.due("27: visitor -1", x.told(-1, 0, 0), Check.BAD);
        Check.due("27: person 2", x.told(0, 2, 0), Check.BAD);
        Check.due("27: person -1", x.told(0, -1, 0), Check.BAD);
        Check.due("27: minute 8", x.told(0, 0, 8), Check.BAD);
        Check.due("27: minute -1", x.told(0, 0, -1), Check.BAD);
    }

    private static void believed() {
        SeenAgain x = Check.houseOf(Check.MANOR);
        Check.due("28: nobody tells", x.believed(0, 3), Check.NONE);
        x.buy(2, 2, 3);
        Check.due("28: a liar alone", x.believed(0, 3), 3);
        x.buy(1, 2, 3);
        Check.due("28: of several the least", x.believed(0, 3), 2);
        x.buy(1, 0, 0);
        Check.due("28: ROOM 0", x.believed(0, 0), 0);
        Check.due("28: person 2", x.believed(2, 0), Check.BAD);
        Check.due("28: person -1", x.believed(-1, 0), Check.BAD);
        Check.due("28: minute 8", x.believed(0, 8), Check.BAD);
        Check.due("28: minute -1", x.believed(0, -1), Check.BAD);
        x = Check.houseOf("h3,3,0;r1,1,1,1,1,1,1,1;l9;l9;t9;");
        x.buy(0, 1, 5);
        x.buy(1, 1, 5);
        x.buy(2, 1, 5);
        Check.due("28: most VISITORS", x.believed(0, 5), 2);
    }

    private static void account() {
        SeenAgain x = Check.houseOf(Check.MANOR);
        x.buy(1, 1, 0);
        x.buy(2, 3, 4);
        x.row(0, 0, 9);
        int[] tale = {3, 1, 1, 1, 1, 3, -1, -1, -1};
        for (int i = 0; i < 9; i++) {
            x.set(0, i, tale[i]);
        }
        Check.due("29: PERSON 0 from 0 on", x.account(6, 0, 0, 0), 1 + 16);
        Check.due("29: PERSON 1 from 0 on", x.account(6, 1, 0, 0), 0);
        Check.due("29: PERSON 0 from 1 on", x.account(6, 0, 0, 1), 1);
        Check.due("29: PERSON 1 from 1 on", x.account(6, 1, 0, 1), 1 + 16);
        Check.due("29: by one", x.account(2, 1, 0, 1), 1);
        Check.due("29: by nobody", x.account(0, 0, 0, 0), 0);
        Check.due("29: no such VISITOR", x.account(16, 0, 0, 0), Check.BAD);
        Check.due("29: no set", x.account(-1, 0, 0, 0), Check.BAD);
        Check.due("29: person 2", x.account(6, 2, 0, 0), Check.BAD);
        Check.due("29: person -1", x.account(6, -1, 0, 0), Check.BAD);
        Check.due("29: row 8", x.account(6, 0, 8, 0), Check.BAD);
        Check.due("29: row -1", x.account(6, 0, -1, 0), Check.BAD);
        Check.due("29: missing", x.account(6, 0, 1, -1), Check.NULL);
        Check.due("29: BAD ahead of NULL", x.account(6, 2, 1, 0), Check.BAD);
        Check.due("29: beyond the end", x.account(6, 0, 0, 2), Check.PLACE);
        Check.due("29: ahead of the row", x.account(6, 0, 0, -1), Check.PLACE);
        Check.due("29: far", x.account(6, 0, 0, Integer.MAX_VALUE), Check.PLACE);
        x.set(0, 0, -1);
        Check.due("29: no ROOM is told", x.account(6, 0, 0, 0), 16);
        x.set(0, 0, 4);
        Check.due("29: no ROOM", x.account(6, 0, 0, 0), Check.BAD);
        Check.due("29: PLACE ahead of that", x.account(6, 0, 0, 2), Check.PLACE);
        Check.due("29: behind it", x.account(6, 0, 0, 1), 1);
        x.set(0, 8, -2);
        Check.due("29: neither", x.account(6, 0, 0, 1), Check.BAD);
        Check.due("29: no HOUSE", new SeenAgain().account(0, 0, 0, 0), Check.BAD);
    }

    private static void met() {
        SeenAgain x = Check.houseOf("h2,1,0;r0,1,0,1,0,1,0,1;r0,0,0,0,1,1,1,1;r1,0,1,0,1,0,1,0;");
        Check.due("30: met(0, 1)", x.met(0, 1), 1 + 4 + 32 + 128);
        Check.due("30: met(1, 0)", x.met(1, 0), 1 + 4 + 32 + 128);
        Check.due("30: never", x.met(0, 2), 0);
        Check.due("30: alike", x.met(1, 1), Check.BAD);
        Check.due("30: person 3", x.met(0, 3), Check.BAD);
        Check.due("30: person 3", x.met(3, 0), Check.BAD);
        Check.due("30: person -1", x.met(-1, 0), Check.BAD);
        Check.due("30: person -1", x.met(0, -1), Check.BAD);
    }

    private static void soldOut() {
        Check.due("31: no HOUSE, ahead of BAD", new SeenAgain().soldOut(-2), Check.STATE);
        SeenAgain x = Check.houseOf("h4,2,0;t99;t99;");
        Check.due("31: none", x.soldOut(-1), 0);
        Check.due("31: none", x.soldOut(0), Check.NONE);
        int[][] sold = {{3, 7}, {1, 2}, {0, 2}};
        for (int[] one : sold) {
            x.buy(0, one[0], one[1]);
            x.buy(1, one[0], one[1]);
        }
        x.buy(0, 2, 2);
        Check.due("31: how many", x.soldOut(-1), 3);
        Check.due("31: by MINUTES, then ROOMS", x.soldOut(0), 12);
        Check.due("31: by MINUTES, then ROOMS", x.soldOut(1), 13);
        Check.due("31: by MINUTES, then ROOMS", x.soldOut(2), 45);
        Check.due("31: no more", x.soldOut(3), Check.NONE);
        Check.due("31: far", x.soldOut(Integer.MAX_VALUE), Check.NONE);
        Check.due("31: i -2", x.soldOut(-2), Check.BAD);
        x.buy(0, 2, 0);
        x.buy(1, 2, 0);
        Check.due("31: MINUTE 0", x.soldOut(0), 2);
        x.back(1, 2, 0);
        x.back(1, 0, 2);
        Check.due("31: one is left", x.soldOut(-1), 2);
    }

    private static void haunted() {
        Check.due("32: no HOUSE", new SeenAgain().haunted(), Check.STATE);
        SeenAgain x = Check.houseOf("h4,3,0;t99;t99;");
        Check.due("32: nothing held", x.haunted(), 0);
        x.buy(0, 3, 1);
        Check.due("32: the only one", x.haunted(), 9);
        x.buy(0, 0, 2);
        Check.due("32: of several the first", x.haunted(), 9);
        x.buy(1, 0, 2);
        Check.due("32: most", x.haunted(), 12);
        x.buy(0, 3, 0);
        x.buy(1, 3, 0);
        Check.due("32: MINUTE 0", x.haunted(), 3);
    }

    private static void image() {
        SeenAgain x = new SeenAgain();
        Check.due("33: BAD ahead of STATE", x.image(2), Check.BAD);
        Check.due("33: image(-1)", x.image(-1), Check.BAD);
        Check.due("33: no HOUSE", x.image(1), Check.STATE);
        Check.read(x, Check.MANOR);
        x.write(1);
        Check.due("33: image(0)", x.image(0), 1);
        x.write(2);
        Check.due("33: image(1)", x.image(1), 1);
        x.write(3);
        x.image(0);
        x.restore(1);
        Check.due("33: kept in 1", x.write(4), 3);
        x.restore(0);
        Check.due("33: kept in 0 anew", x.write(4), 4);
    }

    /** What an IMAGE keeps: all but the ACTS. */
    private static void restore() {
        Run kept = new Run(x -> x.row(0, 1, 5)).told(Check.MANOR)
            .then(x -> x.buy(2, 1, 0), x -> x.buy(2, 3, 7), x -> x.curtain(0, 1, 0), x -> x.curtain(1, 2, 7))
            .then(x -> x.write(2), x -> x.write(7), x -> x.image(0));
        Run plain = kept.then(x -> x.restore(0));
        Check.due("34: restore(0)", plain.last(), 1);
        Check.due("34: no ACT can be undone", plain.made().undo(), Check.STATE);
        Check.due("34: but PURSE", plain.made().visitor(2, 0), 16);
        Run done = kept.then(x -> x.buy(1, 1, 0), x -> x.curtain(1, 2, 0), x -> x.write(3), x -> x.back(2, 3, 7));
        Check.due("34: as it was kept", done.then(x -> x.restore(0)).portrait(), plain.portrait());
        Run undone = kept.times(6, (x, i) -> x.undo());
        Check.due("34: as it was kept", undone.then(x -> x.restore(0)).portrait(), plain.portrait());
        Run since = plain.then(x -> x.back(2, 1, 0), SeenAgain::undo);
        Check.due("34: an ACT since then", since.portrait(), plain.portrait());
        Run other = done.told("h2,1,9;r1,1,1,1,1,1,1,1;r1,1,1,1,1,1,1,1;r1,1,1,1,1,1,1,1;l1;")
            .then(x -> x.buy(0, 1, 7));
        Check.due("34: of another HOUSE", other.then(x -> x.restore(0)).portrait(), plain.portrait());
        Run twice = plain.then(x -> x.write(0), x -> x.buy(0, 3, 7), x -> x.restore(0));
        Check.due("34: once more", twice.portrait(), plain.portrait());
        Check.due("34: none was kept", plain.made().restore(1), Check.STATE);
        Check.due("34: restore(2)", plain.made().restore(2), Check.BAD);
        Check.due("34: restore(-1)", plain.made().restore(-1), Check.BAD);
    }
}
