/** Promises 2 to 5 and 29: the ITEMS themselves, as account() tells them. */
public final class ItemsTest {
    /** Of ROW 0, of a LANE, ITEMS 0, 1, 2, 3, -1, 0, 1, 2, and so on. */
    private static Run wheel(int lane, int n) {
        return new Run(x -> x.row(0, lane, n)).times(n, (x, i) -> x.set(0, i, i % 5 == 4 ? -1 : i % 5));
    }

    public static void main(String[] args) {
        zeroAtFirst();
        setAlone();
        wrapsAround();
        copied();
        overlapping();
        dropped();
        account();
        Check.end();
    }

    private static void zeroAtFirst() {
        String forty = " 0".repeat(40);
        for (int lane = 0; lane < 3; lane++) {
            int one = lane;
            String zeros = "lane " + lane + ":" + forty;
            Check.due("2: 0 at first, " + lane, new Run(x -> x.row(0, one, 40)).row(0), zeros);
            Check.due("2: 0 at first, ROW 7, " + lane, new Run(x -> x.row(7, one, 40)).row(7), zeros);
            for (int before = 0; before < 3; before++) {
                Run again = wheel(before, 40).then(x -> x.row(0, one, 40));
                Check.due("2: in place of what is there", again.row(0), zeros);
                Check.due("39: one ROW", again.made().count(0), 1);
            }
            Run longer = wheel(lane, 40).then(x -> x.row(0, one, 1), x -> x.row(0, one, 40));
            Check.due("2: none stays behind a shorter one", longer.row(0), zeros);
            Run dropped = wheel(lane, 40).then(x -> x.drop(0), x -> x.row(0, one, 40));
            Check.due("2: none stays behind a dropped one", dropped.row(0), zeros);
        }
        Run all = new Run().times(8, (x, row) -> x.row(row, row % 3, 5 * row));
        Check.due("39: eight ROWS", all.made().count(0), 8);
        for (int row = 0; row < 8; row++) {
            Check.due("2: each for itself", all.row(row), "lane " + row % 3 + ":" + " 0".repeat(5 * row));
            Check.due("5: how many", all.made().drop(row), 5 * row);
        }
    }

    private static void setAlone() {
        String wheel = " 0 1 2 3 -1".repeat(8);
        Run forty = wheel(1, 40);
        Check.due("3: each as set", forty.row(0), "lane 1:" + wheel);
        Check.due("3: the first", forty.then(x -> x.set(0, 0, 3)).row(0), "lane 1: 3" + wheel.substring(2));
        Check.due("3: the last", forty.then(x -> x.set(0, 39, 3)).row(0),
            "lane 1:" + wheel.substring(0, wheel.length() - 2) + "3");
        Check.due("3: in place", forty.then(x -> x.set(0, 39, 3)).last(), 3);
    }

    /** A number, and what is left of it in each LANE. */
    private static void wrapsAround() {
        int[][] numbers = {
            {0, 0, 0, 0}, {127, 127, 127, 127}, {128, -128, 128, 128}, {-128, -128, -128, -128},
            {-129, 127, -129, -129}, {255, -1, 255, 255}, {256, 0, 256, 256}, {259, 3, 259, 259},
            {32767, -1, 32767, 32767}, {32768, 0, -32768, 32768}, {-32768, 0, -32768, -32768},
            {-32769, -1, 32767, -32769}, {65535, -1, -1, 65535}, {65536, 0, 0, 65536}, {65538, 2, 2, 65538},
            {Integer.MAX_VALUE, -1, -1, Integer.MAX_VALUE}, {Integer.MIN_VALUE, 0, 0, Integer.MIN_VALUE},
            {-1, -1, -1, -1}, {0x12345678, 0x78, 0x5678, 0x12345678}, {0x1234F688, -120, -2424, 0x1234F688}};
        for (int[] n : numbers) {
            for (int lane = 0; lane < 3; lane++) {
                int one = lane;
                Run set = new Run(x -> x.row(0, one, 1), x -> x.set(0, 0, n[0]));
                Check.due("3: " + n[0] + " in LANE " + lane, set.last(), n[1 + lane]);
                int is = n[1 + lane];
                String told = is < -1 || is > 5 ? "x" : "" + is;
                Check.due("3: what it is then", set.row(0), "lane " + lane + ": " + told);
            }
        }
    }

    private static void copied() {
        Run two = wheel(2, 10).then(x -> x.row(1, 2, 10));
        String zeros = "lane 2: 0 0 0 0 0 0 0 0 0 0";
        Check.due("4: all", two.then(x -> x.copy(0, 0, 1, 0, 10)).row(1), "lane 2: 0 1 2 3 -1 0 1 2 3 -1");
        Check.due("4: the first to the last", two.then(x -> x.copy(0, 1, 1, 9, 1)).row(1),
            "lane 2: 0 0 0 0 0 0 0 0 0 1");
        Check.due("4: the last to the first", two.then(x -> x.copy(0, 9, 1, 0, 1)).row(1),
            "lane 2: -1 0 0 0 0 0 0 0 0 0");
        Check.due("4: some", two.then(x -> x.copy(0, 2, 1, 4, 3)).row(1), "lane 2: 0 0 0 0 2 3 -1 0 0 0");
        Check.due("4: what it came from", two.then(x -> x.copy(0, 2, 1, 4, 3)).row(0), two.row(0));
        Check.due("4: none", two.then(x -> x.copy(0, 10, 1, 10, 0)).row(1), zeros);
        Check.due("4: one too many, and none comes", two.then(x -> x.copy(0, 0, 1, 1, 10)).row(1), zeros);
        Check.due("4: one too many, and none comes", two.then(x -> x.copy(0, 1, 1, 0, 10)).row(1), zeros);
        Check.due("4: all forty", wheel(0, 40).then(x -> x.row(1, 0, 40), x -> x.copy(0, 0, 1, 0, 40)).last(), 40);
        Check.due("4: all forty", wheel(0, 40).then(x -> x.row(1, 0, 40), x -> x.copy(0, 0, 1, 0, 40)).row(1),
            "lane 0:" + " 0 1 2 3 -1".repeat(8));
    }

    private static void overlapping() {
        Run one = wheel(0, 9);
        Check.due("4: one further", one.then(x -> x.copy(0, 0, 0, 1, 8)).row(0), "lane 0: 0 0 1 2 3 -1 0 1 2");
        Check.due("4: one back", one.then(x -> x.copy(0, 1, 0, 0, 8)).row(0), "lane 0: 1 2 3 -1 0 1 2 3 3");
        Check.due("4: three further", one.then(x -> x.copy(0, 1, 0, 4, 5)).row(0), "lane 0: 0 1 2 3 1 2 3 -1 0");
        Check.due("4: three back", one.then(x -> x.copy(0, 4, 0, 1, 5)).row(0), "lane 0: 0 -1 0 1 2 3 1 2 3");
        Check.due("4: to where they are", one.then(x -> x.copy(0, 0, 0, 0, 9)).row(0), one.row(0));
    }

    private static void dropped() {
        Run two = wheel(0, 5).then(x -> x.row(1, 0, 40), x -> x.copy(0, 1, 1, 0, 3));
        Run dropped = two.then(x -> x.drop(0));
        Check.due("5: how many", dropped.last(), 5);
        Check.due("5: it is missing", dropped.row(0), "missing");
        Check.due("5: the other stays", dropped.row(1), two.row(1));
        Check.due("5: forty", two.then(x -> x.drop(1)).last(), 40);
        Check.due("5: a ROW anew", dropped.then(x -> x.row(0, 1, 2)).row(0), "lane 1: 0 0");
    }

    /** Each ITEM of eight tells its MINUTE alone, in each LANE; -1 tells none. */
    private static void account() {
        for (int lane = 0; lane < 3; lane++) {
            int one = lane;
            Run glass = new Run(x -> x.row(7, one, 40)).told(Run.GLASS).times(8, (x, minute) -> x.buy(0, 0, minute))
                .times(40, (x, i) -> x.set(7, i, 2));
            Check.due("29: where he was", glass.made().account(1, 2, 7, 32), 0);
            Check.due("29: where he was not", glass.made().account(1, 1, 7, 32), 255);
            for (int i = 0; i < 8; i++) {
                int k = i;
                SeenAgain x = glass.then(y -> y.set(7, 32 + k, 5), y -> y.set(7, 31, -2)).made();
                Check.due("29: ITEM " + i + " from 32 on", x.account(1, 2, 7, 32), 1 << i);
                Check.due("29: ITEM " + i + " by nobody", x.account(0, 2, 7, 32), 0);
                x = glass.then(y -> y.set(7, 32 + k, -1)).made();
                Check.due("29: -1, ITEM " + i + " from 32 on", x.account(1, 1, 7, 32), 255 - (1 << i));
            }
        }
        // As a byte 255 is -1, and 256 is 0; as a short they are no ROOMS.
        Run bytes = new Run(x -> x.row(0, 0, 8), x -> x.row(1, 1, 8)).told(Check.HUT);
        Check.due("29: 255 of a byte", bytes.then(x -> x.set(0, 0, 255), x -> x.account(0, 0, 0, 0)).last(), 0);
        Check.due("29: 256 of a byte", bytes.then(x -> x.set(0, 0, 256), x -> x.account(0, 0, 0, 0)).last(), 0);
        Check.due("29: 255 of a short", bytes.then(x -> x.set(1, 0, 255), x -> x.account(0, 0, 1, 0)).last(),
            Check.BAD);
    }
}
