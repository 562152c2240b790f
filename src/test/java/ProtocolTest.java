/** The document's Terms: what sites do with messages and timers. Times are worked out by hand. */
public final class ProtocolTest {
    public static void main(String[] args) {
        Runs runs = new Runs("ProtocolTest");
        votes(runs);
        quorums(runs);
        yielding(runs);
        attempts(runs);
        decidedSites(runs);
        mixedStates(runs);
        initialSites(runs);
        runs.end();
    }

    private static void votes(Runs runs) {
        runs.on("all yes: three phases",
            "site 1; site 1; site 1; begin 0 7; run 1 = 2; all 0 = 1 1 1; all 5 = 10 12 13; run 1 = 2",
            "all 0 = 2 1 1; all 2 = 2 0 0; all 5 = 12 12 13; run 1 = 2; all 0 = 2 2 2; all 5 = 12 14 15",
            "run 1 = 2; all 0 = 4 2 2; all 5 = -1 14 15; run 1 = 2; all 0 = 4 4 4; all 5 = -1 -1 -1",
            "all 2 = 0 0 0; all 3 = 1 0 0; all 6 = 4 5 5; count 1 = 10; run 500 = 0");
        runs.on("one no",
            "site 1; site 1; site 1; begin 0 5; run 1 = 2; all 0 = 1 5 1; of 1 5 = -1; run 1 = 2",
            "all 0 = 5 5 1; all 2 = 0 0 0; all 5 = -1 -1 13; run 1 = 2; all 0 = 5 5 5; all 6 = 2 1 3",
            "count 1 = 6");
        runs.on("a yes that comes too late does nothing",
            "site 1; site 1; patience 5; link 1 0 9; begin 0 3; run 5 = 2; of 0 0 = 5; run 5 = 2",
            "all 0 = 5 5; of 0 3 = 0; count 1 = 3");
        runs.on("a no that comes too late does nothing",
            "site 1; site 1; patience 5; link 1 0 9; begin 0 1; run 5 = 2; all 0 = 5 5; all 6 = 5 1",
            "run 5 = 2; count 1 = 3; all 6 = 5 1");
        runs.on("a site that is asked when it is not INITIAL does nothing",
            "site 1; site 1; crash 1; begin 0 3; recover 1; run 1 = 1; of 1 0 = 5; count 1 = 1; count 9 = 0");
        runs.on("all votes are needed, also of a site that is down",
            "site 9; site 1; site 1; crash 2; begin 0 7; run 9 = 2; of 0 2 = 1; run 1 = 1; of 0 0 = 5");
    }

    private static void quorums(Runs runs) {
        runs.on("a leader with the commit quorum commits at once",
            "site 5; site 1; site 1; begin 0 7; run 2 = 4; of 0 0 = 4; of 0 6 = 2; of 0 5 = -1; count 1 = 8",
            "run 1 = 4; all 0 = 4 4 4; all 6 = 2 3 3; count 1 = 10; run 9 = 2");
        runs.on("the commit quorum is just met",
            "site 1; site 2; site 2; quorums 3 3; link 2 0 3; begin 0 7; run 4 = 4; all 0 = 2 1 1; run 1 = 2",
            "all 0 = 2 2 2; run 1 = 1; all 0 = 4 2 2; of 0 6 = 6");
        runs.on("the commit quorum is not met by one",
            "site 1; site 2; site 2; quorums 4 3; link 2 0 3; begin 0 7; run 6 = 7; all 0 = 2 2 2; run 2 = 1",
            "all 0 = 4 2 2; of 0 6 = 8");
        runs.on("a site with the abort quorum aborts alone",
            "site 1; site 1; site 1; quorums 3 1; begin 0 7; run 1; crash 0; crash 2; run 11 = 1",
            "of 1 2 = 3; run 9 = 0; run 1 = 1; of 1 0 = 5; of 1 6 = 22; of 1 5 = -1; count 1 = 10");
        runs.on("without a quorum it waits and attempts again",
            "site 1; site 1; site 1; begin 0 7; run 1; part 2 1; crash 0; run 11 = 1; of 1 2 = 3; of 1 5 = 22",
            "crash 2; run 10 = 1; of 1 0 = 1; of 1 2 = 0; of 1 5 = 33; run 11 = 1; of 1 2 = 3; of 1 3 = 2",
            "of 1 5 = 43");
        runs.on("states of WAITING alone do not commit, even with both quorums",
            "site 1; site 1; site 1; quorums 2 2; begin 0 7; run 1; crash 0; run 21; all 0 = 1 3 1; all 2 = 0 4 0",
            "run 1 = 1; all 0 = 1 3 3; of 2 5 = 35; run 1 = 1; all 0 = 1 5 3; run 1 = 1; all 0 = 1 5 5");
        runs.on("with one that is PRECOMMIT they commit",
            "site 1; site 1; site 1; begin 0 7; run 1; link 0 2 0; run 2 = 3; crash 0; all 0 = 2 2 1",
            "run 10 = 1; of 2 2 = 3; count 0 = 13; run 1 = 2; all 2 = 0 3 3; run 1 = 2; all 2 = 0 3 0",
            "run 8 = 1; count 0 = 23; all 0 = 2 2 1; run 1 = 1; all 2 = 0 2 0; of 1 3 = 1; run 1 = 1",
            "all 0 = 2 2 2; run 1 = 1; all 0 = 2 4 2; run 1 = 1; all 0 = 2 4 4; check = 1");
    }

    private static void yielding(Runs runs) {
        runs.on("one that leads yields to a lower number, not to a higher one",
            "site 1; site 1; site 1; begin 0 7; run 1; crash 0; run 11 = 1; all 2 = 0 3 0; of 1 5 = 22",
            "run 1 = 2; all 2 = 0 3 0; all 3 = 0 1 1; all 5 = -1 22 25; run 1 = 2; all 2 = 0 3 0",
            "all 5 = -1 22 25; run 8 = 2; all 2 = 0 4 0; all 0 = 1 3 1; count 0 = 22");
        runs.on("one that collects votes does not yield",
            "site 1; site 1; site 1; link 2 1 9; begin 2 7; run 1 = 1; crash 0; recover 0; run 1 = 3",
            "of 2 2 = 1; of 2 5 = 10; of 2 0 = 1; latest 0 = 4; latest 1 = 2; run 1 = 2; latest 0 = 5",
            "latest 1 = 0; latest 4 = 1");
        runs.on("one that collects acknowledgements yields to a lower number",
            "site 1; site 1; site 1; begin 2 7; run 2; crash 0; recover 0; of 2 2 = 2; of 0 2 = 3; run 1 = 4",
            "of 2 2 = 0; of 2 5 = 15; of 2 0 = 2; of 0 0 = 2; of 0 2 = 3; of 0 5 = 12; run 1",
            "of 2 0 = 2");
        runs.on("one that collects acknowledgements does not yield to a higher number",
            "site 1; site 1; site 1; begin 0 7; run 2; crash 2; recover 2; of 2 2 = 3; run 1 = 4; of 0 2 = 2",
            "of 0 5 = 12; of 2 2 = 0; of 2 5 = 15; run 1; of 0 0 = 4");
        runs.on("one that does nothing yields to a higher number, too",
            "site 1; site 1; site 1; begin 0 7; run 1; all 5 = 10 12 13; run 2; crash 2; recover 2; run 1",
            "of 1 5 = 15; of 1 2 = 0");
    }

    private static void attempts(Runs runs) {
        runs.on("an acknowledgement of an earlier attempt does not count",
            "site 1; site 1; begin 0 3; run 2 = 2; link 1 0 20; run 1 = 1; of 1 0 = 2; link 1 0 1; run 9 = 1",
            "of 0 2 = 3; of 0 3 = 2; run 10 = 3; count 0 = 22; of 0 2 = 2; of 0 5 = 32; run 1 = 2",
            "of 0 0 = 2; of 0 2 = 2; run 1 = 1; of 0 0 = 4; of 0 6 = 24; run 1 = 1; all 0 = 4 4");
        runs.on("a state of an earlier attempt does not count",
            "site 1; site 1; begin 0 3; run 1; crash 0; recover 0; link 1 0 20; run 1 = 2; of 1 5 = 13",
            "run 9 = 1; of 0 2 = 0; of 0 5 = 21; run 2 = 1; of 1 2 = 3; run 7 = 0; link 1 0 0; run 1 = 1",
            "of 0 2 = 3; of 0 3 = 2; of 0 5 = 31; run 1 = 2; count 2 = 5; of 1 2 = 0; run 9 = 1",
            "of 0 2 = 0; of 0 0 = 1; of 0 5 = 41");
        runs.on("a state, when it collects no states any more, does nothing",
            "site 1; site 1; begin 0 3; run 1; crash 0; recover 0; link 1 0 15; run 16 = 5; of 0 2 = 0",
            "latest 0 = 5; latest 1 = 0; latest 3 = 1; of 0 0 = 1; of 0 3 = 1; of 0 5 = 21");
        runs.on("a state that is decided decides at once, and all are told",
            "site 1; site 1; site 1; begin 0 7; run 1; link 0 2 0; run 4; all 0 = 4 4 1; run 8 = 1; of 2 2 = 3",
            "run 1 = 2; run 1 = 1; all 0 = 4 4 4; of 2 6 = 15; of 2 5 = -1; of 2 2 = 0; count 9 = 2; run 1 = 2",
            "all 6 = 4 5 15; latest 0 = 9; latest 2 = 2");
        runs.on("a timer that runs out when acknowledgements are missing",
            "site 1; site 1; site 1; quorums 3 3; begin 0 7; run 3; part 1 1; run 1 = 2; of 0 0 = 4; reset",
            "part 7 1; begin 0 7; run 2; part 1 1; run 10; of 0 2 = 3; of 0 3 = 2; of 0 5 = 22; of 0 0 = 2");
    }

    private static void decidedSites(Runs runs) {
        runs.on("one that is COMMITTED tells it to a leader to commit",
            "site 1; site 1; site 1; site 1; begin 0 15; run 3; part 1 1; run 1 = 3; all 0 = 4 2 2 2",
            "all 5 = -1 14 15 16; run 16; part 15 1; link 2 1 20; link 3 1 20; run 4; of 1 2 = 2; count 0 = 24",
            "run 1 = 3; run 1 = 1; latest 0 = 9; latest 1 = 1; latest 2 = 0; latest 3 = 0; latest 4 = 0; of 1 0 = 4; of 1 6 = 26",
            "of 1 2 = 0; count 9 = 2; all 0 = 4 4 2 2");
        runs.on("one that is ABORTED tells it to a leader to abort",
            "site 1; site 1; site 1; site 1; link 3 0 0; begin 0 15; run 9; part 1 1; run 1; all 0 = 5 1 1 1",
            "all 5 = -1 12 13 14; run 10; part 15 1; link 2 1 20; link 3 1 20; run 2; of 1 2 = 4; run 2",
            "latest 0 = 10; latest 1 = 1; latest 2 = 0; all 0 = 5 5 3 3; of 1 6 = 24; of 1 2 = 0; count 9 = 2");
        runs.on("one that is decided keeps to it",
            "site 1; site 1; begin 0 3; run 5; all 6 = 4 5; crash 0; recover 0; run 30 = 0; all 6 = 4 5");
    }

    // Site 2 is PRECOMMIT, 0 PREABORT, 1 WAITING: 2 was cut off when it led, then 0 from 1.
    private static final String MIXED =
        "site 1; site 1; site 1; begin 2 7; run 1 = 2; part 4 1; run 1 = 2; all 0 = 1 1 2; run 18 = 7;"
        + "link 0 1 0; run 1 = 1; all 0 = 3 1 2; all 2 = 4 0 3; run 1 = 1; all 5 = 31 23 34; all 2 = 4 0 0";

    private static void mixedStates(Runs runs) {
        runs.on("one that is PREABORT leads to commit, and does not count itself",
            MIXED, "part 7 1; run 2 = 3; all 2 = 4 3 0; all 5 = 31 33 36; run 7 = 3; all 2 = 3 3 0; of 0 3 = 2",
            "run 1 = 2; all 2 = 3 0 0; all 5 = 41 43 44; run 8 = 2; link 1 0 5; run 1 = 1; all 2 = 2 0 0",
            "all 0 = 3 1 2; of 0 3 = 2; run 1 = 2; all 0 = 3 2 2; all 5 = 51 53 54; run 1 = 1; all 0 = 3 2 2",
            "of 0 2 = 2; run 3 = 0; run 1 = 1; all 0 = 4 2 2; run 1 = 2; all 0 = 4 4 4; check = 1");
        runs.on("one that is PREABORT yields to a leader to commit, and acknowledges nothing",
            MIXED, "part 7 1; link 0 1 0; link 0 2 0; run 11 = 6; all 0 = 3 2 2; all 2 = 3 2 0; link 2 1 0",
            "run 1 = 2; all 0 = 3 2 2; all 2 = 3 2 0; all 5 = 41 43 46; count 9 = 0; run 8 = 1; all 2 = 0 2 0",
            "of 0 5 = 51; link 1 0 3; link 2 1 1; run 1 = 1; run 3 = 3; all 5 = 56 53 56; link 1 0 1; run 7 = 1",
            "of 1 3 = 3; run 1 = 2; all 0 = 3 2 2; all 2 = 0 2 0; all 5 = 64 63 66; count 9 = 1; run 1 = 1",
            "all 0 = 3 4 2; run 1 = 2; all 0 = 4 4 4; check = 1");
        runs.on("WAITING and PREABORT together have the abort quorum",
            "site 1; site 1; site 1; begin 0 7; run 1; crash 0; run 20; link 1 2 0; run 1 = 1; all 0 = 1 3 1",
            "link 1 2 1; run 19; of 1 2 = 3; all 0 = 1 3 1; run 1 = 1; of 1 2 = 4; of 1 3 = 2; run 1 = 1",
            "all 0 = 1 3 3; run 1 = 1; all 0 = 1 5 3; run 1 = 1; all 0 = 1 5 5");
        runs.on("its own state is there as it was when it attempted",
            "site 1; site 1; site 1; begin 2 7; run 1; link 2 0 15; link 2 1 0; run 10 = 3; of 0 2 = 3; run 6",
            "count 0 = 17; latest 0 = 6; latest 1 = 0; of 0 0 = 2; of 0 2 = 3; of 0 5 = 21; run 3; run 1",
            "of 0 2 = 4; of 0 0 = 2; of 0 3 = 1");
    }

    private static void initialSites(Runs runs) {
        runs.on("one that is INITIAL aborts when it is asked for its state, and tells so",
            "site 1; site 1; site 1; link 0 2 0; begin 0 7; run 1 = 1; crash 1; recover 1; run 1 = 3",
            "of 2 0 = 5; of 2 6 = 2; of 2 5 = -1; run 1 = 2; of 1 0 = 5; of 1 6 = 3; of 0 0 = 1; run 1 = 2",
            "all 0 = 5 5 5");
        String untouched = "site 1; site 1; site 1; site 1; quorums 3 2; link 3 0 0; link 1 0 0; link 2 0 0;"
            + "begin 3 15; run 1 = 2; crash 3; run 20; all 0 = 0 1 1 1; of 1 2 = 3; link 1 0 1; run 1 = 1;"
            + "of 1 2 = 4; run 1 = 2; all 0 = 0 3 3 1";
        runs.on("one that is INITIAL yields to a leader to abort, acknowledges nothing, and attempts",
            untouched, "of 0 2 = 0; of 0 5 = 33; count 9 = 1; crash 1; run 1 = 0; link 2 0 1; run 9 = 1; of 0 2 = 3",
            "of 0 3 = 1; of 0 5 = 43; of 0 0 = 0; run 2 = 2; latest 4 = 3; run 8 = 1; of 0 2 = 0; of 0 5 = 53");
        runs.on("one that is INITIAL, and attempts, is asked for its state",
            untouched, "crash 1; run 10 = 1; of 0 2 = 3; crash 2; run 2; link 2 0 1; recover 2; run 1 = 1",
            "of 0 0 = 5; of 0 6 = 36; of 0 5 = -1; of 0 2 = 3; run 1 = 1; of 2 0 = 5");
    }
}
