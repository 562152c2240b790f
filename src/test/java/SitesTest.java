/** Promises 7 to 9 and 12: a transaction begins, sites crash and come up again, all starts anew. */
public final class SitesTest {
    public static void main(String[] args) {
        Runs runs = new Runs("SitesTest");
        begin(runs);
        crash(runs);
        recover(runs);
        reset(runs);
        runs.end();
    }

    private static void begin(Runs runs) {
        runs.on("7 with yes",
            "site 1; site 1; site 1; run 4 = 0; begin 1 7 = 1; all 0 = 0 1 0; all 2 = 0 1 0",
            "all 5 = -1 14 -1; all 6 = 0 4 0; all 3 = 0 0 0; count 1 = 2; count 9 = 2; count 2 = 0");
        runs.on("7 with no",
            "site 1; site 1; site 1; begin 1 5 = 1; all 0 = 0 5 0; count 1 = 2; count 9 = 2",
            "of 1 5 = -1; of 1 2 = 0; run 1 = 2; all 0 = 5 5 5; latest 0 = 10; latest 1 = 2",
            "latest 2 = 1; all 6 = 1 0 1; check = 1; run 100 = 0");
        runs.on("7 one site alone leads and commits at once",
            "site 9; begin 0 1 = 1; of 0 0 = 4; of 0 3 = 1; of 0 5 = -1; of 0 2 = 0; count 1 = 0",
            "step = -1; check = 1");
        runs.on("7 wrong sites",
            "site 1; site 1; begin 2 3 = 0; begin -1 3 = 0; begin max 3 = 0; begin min 3 = 0",
            "crash 0 = 1; begin 0 3 = 0; count 1 = 0; of 0 0 = 0; quorums 2 2 = 1; begin 1 3 = 1");
        runs.on("7 only once",
            "site 1; site 1; begin 0 3 = 1; begin 0 3 = 0; begin 1 3 = 0; begin 1 0 = 0; count 1 = 1",
            "all 0 = 1 0; run 4 = 4; of 0 0 = 4; begin 0 3 = 0; run 1 = 1; all 0 = 4 4");
        runs.on("7 bits of no site count for nothing",
            "site 1; site 1; begin 0 -1 = 1; run 5 = 5; all 0 = 4 4; reset; begin 0 -3 = 1",
            "run 1 = 1; all 0 = 1 5; reset; begin 0 -4 = 1; of 0 0 = 5; reset; begin 1 min = 1",
            "of 1 0 = 5; reset; begin 1 max = 1; of 1 0 = 1; check = 1");
    }

    private static void crash(Runs runs) {
        runs.on("8 what stays and what ends",
            "site 1; site 1; site 1; begin 0 7; run 2 = 4; all 2 = 2 0 0; crash 0 = 1; crash 0 = 0",
            "of 0 0 = 2; of 0 1 = 0; of 0 2 = 0; of 0 3 = 1; of 0 4 = 1; of 0 5 = -1; of 0 6 = 2",
            "run 1 = 2; count 9 = 2; count 3 = 0; run 1 = 0; count 9 = 0; count 3 = 2; all 0 = 2 2 2");
        runs.on("8 wrong sites",
            "site 1; crash 1 = 0; crash -1 = 0; crash max = 0; crash min = 0; of 0 1 = 1");
        runs.on("8 before it has begun",
            "site 1; site 1; crash 1 = 1; begin 0 3 = 1; count 9 = 1; run 1 = 0; count 3 = 1; of 1 0 = 0",
            "run 8 = 0; run 1 = 1; all 0 = 5 0; all 6 = 10 0");
        runs.on("8 a message comes if its receiver is up again by then",
            "site 1; site 1; link 0 1 2; begin 0 1; crash 1; run 1 = 0; recover 1 = 1; run 1 = 1",
            "count 2 = 1; count 3 = 0");
    }

    private static void recover(Runs runs) {
        runs.on("9 before it has begun nothing else happens",
            "site 1; site 1; recover 0 = 0; crash 0; of 0 1 = 0; recover 0 = 1; of 0 1 = 1; recover 0 = 0",
            "of 0 0 = 0; of 0 2 = 0; of 0 5 = -1; count 1 = 0");
        runs.on("9 wrong sites",
            "site 1; recover 1 = 0; recover -1 = 0; recover max = 0; recover min = 0; recover 0 = 0");
        runs.on("9 INITIAL it aborts and sends nothing",
            "site 1; site 1; crash 1; run 3; begin 0 3; recover 1 = 1; of 1 0 = 5; of 1 6 = 3; count 1 = 1",
            "of 1 5 = -1; of 1 2 = 0; run 1 = 1; count 1 = 1; run 8 = 0; run 1 = 1; all 0 = 5 5");
        runs.on("9 WAITING it attempts",
            "site 1; site 1; site 1; begin 0 7; run 1 = 2; crash 1; recover 1 = 1; all 0 = 1 1 1",
            "all 2 = 1 3 0; of 1 3 = 1; of 1 5 = 11; count 1 = 6; run 1 = 4; latest 0 = 4; latest 1 = 2",
            "latest 2 = 1; latest 3 = 1; of 0 2 = 2; of 0 3 = 1");
        runs.on("9 PRECOMMIT it attempts with one more",
            "site 1; site 1; site 1; begin 0 7; run 3; crash 0; recover 0 = 1; of 0 0 = 2; of 0 2 = 3",
            "of 0 3 = 2; of 0 5 = 13; crash 0; recover 0 = 1; of 0 3 = 3");
        runs.on("9 PREABORT it attempts",
            "site 1; site 1; site 1; begin 0 7; run 1; crash 0; run 22; all 0 = 1 3 3; crash 2; recover 2 = 1",
            "of 2 0 = 3; of 2 2 = 3; of 2 3 = 2; of 2 5 = 33");
        runs.on("9 the one that collected votes does not go on with it",
            "site 1; site 1; begin 0 3; run 1; crash 0; recover 0 = 1; of 0 2 = 3; run 1 = 2; of 0 0 = 1",
            "of 0 2 = 3; of 0 3 = 1");
        runs.on("9 decided it does nothing",
            "site 1; site 1; begin 0 2; crash 0; recover 0 = 1; of 0 0 = 5; of 0 2 = 0; count 1 = 1",
            "of 0 5 = -1; of 0 6 = 0; reset; begin 0 3; run 5 = 5; crash 1; run 1; recover 1 = 1",
            "of 1 0 = 4; of 1 6 = 5; of 1 2 = 0; count 1 = 5");
    }

    private static void reset(Runs runs) {
        runs.on("12 all of it",
            "site 2; site 3; site 4; quorums 8 3; patience 6; part 3 2; link 0 2 5; begin 0 7; run 2; crash 1",
            "run 30; count 4; reset = 1; all 0 = 0 0 0; all 1 = 1 1 1; all 2 = 0 0 0; all 3 = 0 0 0",
            "all 4 = 2 3 4; all 5 = -1 -1 -1; all 6 = 0 0 0; count 0 = 0; count 1 = 0; count 2 = 0",
            "count 3 = 0; count 4 = 0; count 5 = 3; count 6 = 8; count 7 = 3; count 8 = 6; count 9 = 0",
            "latest 0 = 0; latest 3 = 0; latest 4 = 0; delay 0 1 = 2; delay 0 2 = 5; delay 1 2 = 0",
            "step = -1; weight 0 = 9; check = 1; begin 1 7 = 1");
        runs.on("12 what was on its way does not come, and no timer runs out",
            "site 1; site 1; link 0 1 9; begin 0 3; run 3; count 9 = 1; reset = 1; count 9 = 0; run 50 = 0",
            "all 0 = 0 0; count 0 = 50; link 0 1 1; begin 0 3 = 1; run 5 = 5; all 0 = 4 4; all 6 = 54 55");
        runs.on("12 attempts begin with 1 again",
            "site 1; site 1; begin 0 3; run 2; of 0 3 = 1; of 0 2 = 2; reset = 1; of 0 2 = 0; of 0 3 = 0",
            "begin 0 3; run 2; of 0 3 = 1; crash 0; recover 0; of 0 3 = 2; reset = 1",
            "of 0 3 = 0; begin 0 3; run 2; of 0 3 = 1");
        runs.on("12 twice, and on a new object", "reset = 1; reset = 1; site 1 = 0; reset = 1; count 5 = 1");
    }
}
