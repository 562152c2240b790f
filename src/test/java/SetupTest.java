/** Promises 1 to 6 and 15: what is told before a transaction begins. */
public final class SetupTest {
    public static void main(String[] args) {
        Runs runs = new Runs("SetupTest");
        newObject(runs);
        site(runs);
        quorums(runs);
        link(runs);
        part(runs);
        patience(runs);
        runs.end();
    }

    private static void newObject(Runs runs) {
        runs.on("1 no sites",
            "count 0 = 0; count 1 = 0; count 2 = 0; count 3 = 0; count 4 = 0; count 5 = 0; count 9 = 0",
            "count 6 = 1; count 7 = 1; count 8 = 10",
            "of 0 0 = -1; delay 0 1 = -1; weight 0 = 0; check = 1",
            "latest 0 = 0; latest 3 = 0; latest 4 = 0",
            "crash 0 = 0; recover 0 = 0; begin 0 1 = 0; link 0 1 1 = 0; part 1 1 = 0; quorums 1 1 = 0",
            "step = -1; run 5 = 0; count 0 = 5; reset = 1; count 0 = 0");
    }

    private static void site(Runs runs) {
        runs.on("2 weights and numbers",
            "site 0 = -1; site 10 = -1; site -1 = -1; site min = -1; site max = -1; count 5 = 0",
            "site 1 = 0; site 9 = 1; count 5 = 2; all 4 = 1 9; all 1 = 1 1; all 0 = 0 0; all 2 = 0 0",
            "all 3 = 0 0; all 5 = -1 -1; all 6 = 0 0; of 2 4 = -1");
        runs.on("2 at most eight",
            "site 1 = 0; site 2 = 1; site 3 = 2; site 4 = 3; site 5 = 4; site 6 = 5; site 7 = 6",
            "site 8 = 7; site 1 = -1; count 5 = 8; weight 0 = 36; count 6 = 19; count 7 = 19");
        runs.on("2 not when it has begun",
            "site 1 = 0; begin 0 1 = 1; site 1 = -1; count 5 = 1; reset = 1; site 1 = 1");
        runs.on("2 a site that comes later has links of 1, and is in its first state",
            "site 1; site 1; part 1 7 = 2; run 20 = 0; site 2 = 2; delay 0 1 = 0",
            "delay 0 2 = 1; delay 2 0 = 1; delay 1 2 = 1; delay 2 1 = 1; of 2 6 = 0; of 2 5 = -1");
        runs.on("2 a down site stays down when one is added",
            "site 1; crash 0 = 1; site 1 = 1; all 1 = 0 1");
    }

    private static void quorums(Runs runs) {
        runs.on("3 half and one more before they are told",
            "site 4 = 0; count 6 = 3; count 7 = 3; site 1 = 1; count 6 = 3; count 7 = 3",
            "site 1 = 2; count 6 = 4; count 7 = 4");
        runs.on("3 edges",
            "site 3; site 2; site 2; quorums 4 4 = 1; quorums 7 1 = 1; count 6 = 7; count 7 = 1",
            "quorums 1 7 = 1; count 6 = 1; count 7 = 7; quorums 7 7 = 1; quorums 3 5 = 1",
            "quorums 3 4 = 0; quorums 4 3 = 0; quorums 8 1 = 0; quorums 1 8 = 0; quorums 0 7 = 0",
            "quorums 7 0 = 0; quorums -1 7 = 0; quorums 7 -1 = 0; quorums max max = 0",
            "quorums min max = 0; quorums max 1 = 0; quorums 1 max = 0; count 6 = 3; count 7 = 5");
        runs.on("3 a new site brings the first quorums back",
            "site 3; site 3; quorums 6 1 = 1; site 0 = -1; count 6 = 6; count 7 = 1",
            "site 3 = 2; count 6 = 5; count 7 = 5");
        runs.on("3 not when it has begun; they stay at a reset",
            "site 1; site 1; quorums 2 1 = 1; begin 0 3 = 1; quorums 2 2 = 0; count 7 = 1",
            "reset = 1; count 6 = 2; count 7 = 1; quorums 1 2 = 1; count 6 = 1; count 7 = 2");
    }

    private static void link(Runs runs) {
        runs.on("4, 15 edges",
            "site 1; site 1; site 1; delay 0 1 = 1; delay 2 1 = 1",
            "link 0 1 20 = 1; delay 0 1 = 20; delay 1 0 = 1; link 1 0 0 = 1; delay 1 0 = 0",
            "link 0 1 21 = 0; link 0 1 -1 = 0; link 0 1 max = 0; link 0 1 min = 0; delay 0 1 = 20",
            "link 0 0 1 = 0; link 3 0 1 = 0; link 0 3 1 = 0; link -1 0 1 = 0; link 0 -1 1 = 0",
            "link max 0 1 = 0; link 0 min 1 = 0; link 0 1 1 = 1; delay 0 1 = 1",
            "delay 0 0 = -1; delay 3 0 = -1; delay 0 3 = -1; delay -1 0 = -1; delay 0 -1 = -1",
            "delay max 0 = -1; delay min max = -1; delay 2 2 = -1");
        runs.on("4 what is on its way comes as it was sent",
            "site 1; site 1; link 0 1 3 = 1; begin 0 3 = 1; link 0 1 0 = 1; run 2 = 0; run 1 = 1",
            "of 1 0 = 1; latest 0 = 1; link 1 0 9 = 1; run 1 = 1; of 0 2 = 2; count 3 = 1");
        runs.on("4 a message on a cut link is lost when it is sent",
            "site 1; site 1; link 0 1 0 = 1; begin 0 3 = 1; count 1 = 1; count 3 = 1; count 9 = 0",
            "count 2 = 0; run 9 = 0; run 1 = 1; of 0 0 = 5; count 1 = 2; count 3 = 2; of 1 0 = 0");
        runs.on("4 a slow link takes its ticks",
            "site 1; site 1; patience 100 = 1; link 0 1 20 = 1; begin 0 3 = 1; run 19 = 0; of 1 0 = 0",
            "count 9 = 1; run 1 = 1; of 1 0 = 1; of 1 6 = 20; count 9 = 1");
    }

    private static void part(Runs runs) {
        runs.on("5 two parts",
            "site 1; site 1; site 1; site 1; part 5 7 = 12; delay 0 2 = 7; delay 2 0 = 7; delay 1 3 = 7",
            "delay 3 1 = 7; delay 0 1 = 0; delay 1 0 = 0; delay 0 3 = 0; delay 2 1 = 0; delay 3 2 = 0",
            "part 5 7 = 12; part 15 20 = 12; delay 0 1 = 20; delay 3 2 = 20; part 0 1 = 12",
            "delay 0 1 = 1; delay 2 3 = 1");
        runs.on("5 bits of no site count for nothing",
            "site 1; site 1; part 0 3 = 2; part -4 2 = 2; delay 0 1 = 2; part -3 4 = 2; delay 0 1 = 0",
            "part min 9 = 2; delay 1 0 = 9; part max 8 = 2; delay 1 0 = 8");
        runs.on("5 wrong delays",
            "site 1; site 1; link 0 1 4; part 1 0 = -1; part 1 21 = -1; part 1 -1 = -1; part 1 max = -1",
            "part 1 min = -1; delay 0 1 = 4; delay 1 0 = 1");
        runs.on("5 one site has no links", "site 1; part 1 1 = 0; part 0 20 = 0; part 0 0 = -1");
        runs.on("5 when it has begun, too",
            "site 1; site 1; begin 0 3; part 1 2 = 2; run 1 = 1; of 1 0 = 1; count 3 = 1; delay 0 1 = 0");
    }

    private static void patience(Runs runs) {
        runs.on("6 edges",
            "count 8 = 10; patience 5 = 1; count 8 = 5; patience 100 = 1; count 8 = 100; patience 4 = 0",
            "patience 101 = 0; patience 0 = 0; patience -5 = 0; patience max = 0; patience min = 0",
            "count 8 = 100");
        runs.on("6 not when it has begun; it stays at a reset",
            "site 1; site 1; patience 7 = 1; begin 1 3 = 1; of 1 5 = 7; patience 8 = 0; count 8 = 7",
            "run 1 = 1; of 0 5 = 8; reset = 1; count 8 = 7; patience 8 = 1; count 8 = 8");
    }
}
