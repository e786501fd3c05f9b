/** Long runs of calls by fixed rows of numbers: SameWater must answer as the Model does. */
public final class RandomRunsTest {
    private static final Check CHECK = new Check();

    public static void main(String[] args) {
        for (int run = 0; run < 300; run++) {
            Player player = new Player(CHECK, "run " + run, 77 + run * 1000003L);
            while (!player.isDone()) {
                player.step();
            }
        }
        for (int run = 300; run < 2800; run++) {
            new Player(CHECK, "text " + run, run * 7919L).readText();
        }
        byTurns();
        CHECK.end();
    }

    /** Several objects are used by turns, each with its own Model, and made one while others are in use. */
    private static void byTurns() {
        for (int run = 0; run < 40; run++) {
            Player[] players = new Player[2 + run % 3];
            boolean used = true;
            for (int turn = 0; used; turn++) {
                used = false;
                for (int i = 0; i < players.length; i++) {
                    if (players[i] == null && turn >= i * 20) {
                        players[i] = new Player(CHECK, "by turns " + run + ", object " + i, 5 + run * 31L + i * 1000033L);
                    }
                    for (int step = 0; step <= (run + i) % 4 && players[i] != null && !players[i].isDone(); step++) {
                        players[i].step();
                    }
                    used |= players[i] == null || !players[i].isDone();
                }
            }
        }
    }
}
