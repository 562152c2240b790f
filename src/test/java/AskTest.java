/** Promises 13, 14 and 16 to 18: what can be asked. */
public final class AskTest {
    public static void main(String[] args) {
        Runs runs = new Runs("AskTest");
        of(runs);
        count(runs);
        weight(runs);
        latest(runs);
        check(runs);
        runs.end();
    }

    private static void of(Runs runs) {
        runs.on("13 wrong inputs",
            "of 0 0 = -1; site 1; of 0 7 = -1; of 0 -1 = -1; of 0 max = -1; of 0 min = -1; of 1 0 = -1",
            "of -1 0 = -1; of max 0 = -1; of min 0 = -1; of 1 7 = -1");
        runs.on("13 every what",
            "site 3; site 5; site 7; begin 0 7; run 2; of 0 0 = 2; of 0 1 = 1; of 0 2 = 2; of 0 3 = 1",
            "of 0 4 = 3; of 0 5 = 12; of 0 6 = 2; of 2 0 = 1; of 2 1 = 1; of 2 2 = 0; of 2 3 = 0",
            "of 2 4 = 7; of 2 5 = 13; of 2 6 = 1; crash 2; of 2 1 = 0; of 2 5 = -1; of 2 6 = 1");
    }

    private static void count(Runs runs) {
        runs.on("14 every what, and others",
            "site 1; site 1; site 2; quorums 4 3; patience 20; crash 2; link 0 1 2; begin 0 7; count 1 = 2",
            "count 9 = 2; count 3 = 0; run 1 = 0; count 3 = 1; count 9 = 1; run 1 = 1; count 9 = 1",
            "run 18 = 2; count 0 = 20; count 1 = 5; count 2 = 2; count 3 = 1; count 4 = 1; count 5 = 3",
            "count 6 = 4; count 7 = 3; count 8 = 20; count 9 = 2",
            "count 10 = -1; count -1 = -1; count max = -1; count min = -1");
    }

    private static void weight(Runs runs) {
        runs.on("16 by state, and others",
            "weight 0 = 0; site 3; site 5; site 9; weight 0 = 17; begin 0 5; weight 0 = 14; weight 1 = 3",
            "run 1; weight 0 = 0; weight 1 = 12; weight 5 = 5; run 2; weight 5 = 17; weight 4 = 0",
            "weight 6 = 0; weight -1 = 0; weight max = 0; weight min = 0");
        runs.on("16 ready, committed, and of down sites",
            "site 3; site 5; site 9; begin 1 7; run 2; weight 2 = 5; run 1; crash 0; weight 2 = 17",
            "run 2; weight 2 = 3; weight 4 = 14; weight 3 = 0");
        runs.on("16 ready to abort",
            "site 1; site 2; site 4; begin 0 7; run 1; crash 0; run 22; weight 3 = 6; weight 5 = 0",
            "weight 1 = 1; run 1; weight 5 = 2; weight 3 = 4; run 1; weight 5 = 6; weight 3 = 0");
    }

    private static void latest(Runs runs) {
        runs.on("17 nothing came",
            "latest 0 = 0; latest 1 = -1; latest 2 = -1; latest 3 = 0; latest 4 = 0; latest 5 = -1",
            "latest -1 = -1; latest max = -1; latest min = -1; site 1; begin 0 1; latest 0 = 0");
        runs.on("17 the messages of a commit",
            "site 1; site 1; site 1; begin 2 7; step = 1",
            "latest 0 = 1; latest 1 = 0; latest 2 = 2; latest 3 = 0; latest 4 = 0; step = 1; step = 2",
            "latest 0 = 2; latest 1 = 2; latest 2 = 0; latest 3 = 0; latest 4 = 0; step = 2; step = 3",
            "latest 0 = 6; latest 1 = 0; latest 2 = 2; latest 3 = 1; latest 4 = 0; step = 3; step = 4",
            "latest 0 = 8; latest 1 = 2; latest 2 = 0; latest 3 = 1; latest 4 = 0; step = 4; step = 5",
            "latest 0 = 9; latest 1 = 0; latest 2 = 2; latest 3 = 0; latest 4 = 0; latest 5 = -1");
        runs.on("17 no, abort",
            "site 1; site 1; site 1; begin 0 3; run 1; step = 2; step = 2; latest 0 = 3; latest 1 = 0",
            "latest 2 = 2; latest 3 = 0; latest 4 = 0; step = 3; latest 0 = 10; latest 1 = 1; latest 2 = 0",
            "latest 3 = 0; latest 4 = 0");
        runs.on("17 a timer, states, ready to abort; lost ones are not told",
            "site 1; site 1; site 1; begin 0 7; run 1; crash 0; run 1 = 0; latest 0 = 1; latest 1 = 2",
            "step = 12; latest 0 = 11; latest 1 = 1; latest 2 = 1; latest 3 = 0; latest 4 = 0",
            "step = 13; latest 0 = 11; latest 1 = 2; latest 2 = 2",
            "step = 13; latest 0 = 4; latest 1 = 2; latest 2 = 1; latest 3 = 1; latest 4 = 0",
            "step = 14; latest 0 = 4; latest 1 = 1; latest 2 = 2; latest 3 = 1; latest 4 = 0",
            "step = 14; latest 0 = 5; latest 1 = 1; latest 2 = 2; latest 3 = 1; latest 4 = 1",
            "step = 15; step = 22; latest 0 = 11; latest 1 = 1; latest 3 = 0",
            "step = 23; latest 0 = 7; latest 1 = 2; latest 2 = 1; latest 3 = 1; latest 4 = 0",
            "step = 24; latest 0 = 8; latest 1 = 1; latest 2 = 2; latest 3 = 1; latest 4 = 0",
            "reset; latest 0 = 0; latest 3 = 0; latest 4 = 0");
    }

    private static void check(Runs runs) {
        runs.on("18 always",
            "check = 1; site 1; site 1; check = 1; begin 0 3; check = 1; run 4; all 0 = 4 2; check = 1",
            "run 1; all 0 = 4 4; check = 1; reset; begin 0 0; all 0 = 5 0; check = 1; run 1; check = 1",
            "reset; begin 0 1; run 1; all 0 = 1 5; check = 1; run 1; all 0 = 5 5; check = 1; reset; check = 1");
    }
}
