/** The edges that "What it is" and "Terms" name, a run for each, with times worked out by hand. */
public final class TermsTest {
    private static final String TWO = "site 1; site 1;";
    private static final String THREE = "site 1; site 1; site 1;";
    private static final String FOUR = "site 1; site 1; site 1; site 1;";
    private static final String EIGHT = "site 1; site 1; site 1; site 1; site 1; site 1; site 1; site 1;";

    public static void main(String[] args) {
        Runs runs = new Runs("TermsTest");
        eightSites(runs);
        manyCalls(runs);
        statesOfDownSites(runs);
        links(runs);
        downReceivers(runs);
        timers(runs);
        longTime(runs);
        timersOfDecidedSites(runs);
        order(runs);
        orderOfReceivers(runs);
        votes(runs);
        acknowledgementsToCommit(runs);
        acknowledgementsToAbort(runs);
        statesToCommit(runs);
        statesToAbort(runs);
        yielding(runs);
        runs.end();
    }

    private static void eightSites(Runs runs) {
        runs.on("eight sites commit", EIGHT,
            "begin 0 255; run 1 = 7; run 1 = 7; run 1 = 7; of 0 2 = 2; run 1 = 7; of 0 0 = 4; run 1 = 7",
            "all 0 = 4 4 4 4 4 4 4 4; all 6 = 4 5 5 5 5 5 5 5; weight 4 = 8; count 1 = 35; count 2 = 35");
        runs.on("eight sites abort", EIGHT,
            "begin 7 127; run 1 = 7; all 0 = 5 5 5 5 5 5 5 5; reset; begin 7 254; run 3 = 21",
            "all 0 = 5 5 5 5 5 5 5 5; all 6 = 1 3 3 3 3 3 3 2; count 1 = 21; check = 1");
    }

    /** An object is used for 512 calls: the last of them is answered as the first ones are. */
    private static void manyCalls(Runs runs) {
        CommitSites x = new CommitSites();
        for (int i = 0; i < 3; i++) {
            runs.due("512 calls: site", x.site(1), i);
        }
        for (int k = 0; k < 101; k++) {
            runs.due("512 calls: begin", x.begin(0, 7), 1);
            runs.due("512 calls: run", x.run(5), 10);
            runs.due("512 calls: of 0 0", x.of(0, 0), 4);
            runs.due("512 calls: count 1", x.count(1), 10);
            runs.due("512 calls: reset", x.reset(), 1);
        }
        runs.due("call 509: begin", x.begin(0, 7), 1);
        runs.due("call 510: run", x.run(5), 10);
        runs.due("call 511: all are COMMITTED", x.weight(4), 3);
        runs.due("call 512: latest", x.latest(0), 9);
        crowdedCalls(runs);
        lateCalls(runs);
    }

    /** As many messages on their way at once as 512 calls can bring there, and none is forgotten. */
    private static void crowdedCalls(Runs runs) {
        CommitSites x = new CommitSites();
        for (int i = 0; i < 8; i++) {
            x.site(1);
        }
        x.begin(0, 255);
        x.run(1);
        x.part(255, 20);
        for (int k = 1; k <= 248; k++) {
            runs.due("512 calls: crash", x.crash(1), 1);
            runs.due("512 calls: recover", x.recover(1), 1);
        }
        runs.due("call 508: the last attempt", x.of(1, 3), 248);
        runs.due("call 509: sent", x.count(1), 7 + 7 + 248 * 7);
        runs.due("call 510: on their way", x.count(9), 7 + 248 * 7);
        runs.due("call 511: lost", x.count(3), 0);
        runs.due("call 512: seven votes, all that was asked for, eight timers", x.run(20), 7 + 248 * 7 + 8);
    }

    private static void lateCalls(Runs runs) {
        CommitSites x = new CommitSites();
        x.site(1);
        for (int k = 2; k <= 504; k++) {
            runs.due("512 calls: run 0", x.run(0), 0);
        }
        for (int k = 1; k <= 8; k++) {
            runs.due("512 calls: run 500", x.run(500), 0);
        }
    }

    private static void statesOfDownSites(Runs runs) {
        runs.on("INITIAL stays when the site is down", TWO,
            "begin 0 3; crash 1; of 1 0 = 0; run 5; of 1 0 = 0; of 1 6 = 0");
        runs.on("WAITING stays", TWO, "begin 0 3; crash 0; of 0 0 = 1; run 30; of 0 0 = 1; of 0 6 = 0");
        runs.on("PRECOMMIT stays", TWO,
            "begin 0 3; run 2; crash 0; of 0 0 = 2; crash 1; run 30; of 0 0 = 2; of 0 6 = 2");
        runs.on("PREABORT stays", THREE,
            "begin 0 7; run 1; crash 0; run 21; of 1 0 = 3; crash 1; of 1 0 = 3; crash 2; run 30; of 1 0 = 3",
            "of 1 6 = 22");
        runs.on("COMMITTED stays", TWO, "begin 0 3; run 4; crash 0; of 0 0 = 4; run 30; of 0 0 = 4; of 0 6 = 4");
        runs.on("ABORTED stays", TWO, "begin 0 0; crash 0; of 0 0 = 5; run 30; of 0 0 = 5; of 0 6 = 0");
        runs.on("an attempt stays, what it does ends", TWO,
            "begin 0 3; run 2; of 0 2 = 2; of 0 3 = 1; crash 0; of 0 2 = 0; of 0 3 = 1; recover 0; of 0 2 = 3",
            "of 0 3 = 2; crash 0; of 0 2 = 0; of 0 3 = 2");
        runs.on("an attempt is 0 at first, also of one that collects votes", TWO,
            "all 3 = 0 0; begin 0 3; run 1; all 3 = 0 0");
    }

    private static void links(Runs runs) {
        runs.on("a delay of 1, at first", TWO, "begin 0 0; run 0 = 0; count 9 = 1; run 1 = 1; of 1 6 = 1");
        runs.on("a delay of 20", TWO,
            "link 0 1 20; begin 0 0; run 19 = 0; count 9 = 1; run 1 = 1; of 1 6 = 20; count 9 = 0");
        runs.on("delays of 19, 20 and 1 do not mix", FOUR,
            "link 0 1 20; link 0 2 19; begin 0 0; step = 1; latest 1 = 3; step = 19; latest 1 = 2; step = 20",
            "latest 1 = 1; step = -1");
        runs.on("each way has its own delay", TWO,
            "patience 50; link 0 1 3; link 1 0 7; begin 0 3; step = 3; step = 10; step = 13; step = 20; step = 23",
            "all 6 = 20 23");
        runs.on("sent on a cut link: lost at once", TWO,
            "link 0 1 0; begin 0 0; count 3 = 1; count 1 = 1; count 9 = 0; run 50 = 0; of 1 0 = 0");
        runs.on("an answer on a cut link", TWO,
            "link 1 0 0; begin 0 3; run 1 = 1; of 1 0 = 1; count 1 = 2; count 3 = 1; count 9 = 0");
    }

    private static void downReceivers(Runs runs) {
        runs.on("down when it comes: lost then, not earlier", TWO,
            "link 0 1 2; begin 0 0; crash 1; run 1 = 0; count 3 = 0; run 1 = 0; count 3 = 1");
        runs.on("goes down at that time, before it comes", THREE,
            "begin 0 0; step = 1; crash 2; run 0 = 0; count 3 = 1; of 2 0 = 0");
        runs.on("goes down at that time, after it came", THREE,
            "begin 0 0; step = 1; step = 1; crash 2; run 0 = 0; count 3 = 0; of 2 0 = 5");
        runs.on("down when it was sent, up when it comes", TWO,
            "crash 1; begin 0 3; recover 1; run 1 = 1; count 2 = 1; count 3 = 0");
        runs.on("down in between", TWO,
            "link 0 1 3; begin 0 0; run 1; crash 1; run 1; recover 1; run 1 = 1; count 3 = 0; latest 0 = 10");
        runs.on("the sender is down when it comes", TWO,
            "begin 0 3; crash 0; run 1 = 1; latest 0 = 1; latest 2 = 0; of 1 0 = 1");
    }

    private static void timers(Runs runs) {
        runs.on("off at first", EIGHT, "all 5 = -1 -1 -1 -1 -1 -1 -1 -1; run 500 = 0; count 4 = 0");
        runs.on("patience for the one that begins, patience + i for those that vote", EIGHT,
            "begin 0 255; of 0 5 = 10; run 1; all 5 = 10 12 13 14 15 16 17 18; reset; begin 7 255; of 7 5 = 10",
            "run 1; all 5 = 11 12 13 14 15 16 17 10");
        runs.on("the shortest patience", TWO,
            "patience 5; link 1 0 0; begin 0 3; run 1; all 5 = 5 7; run 3 = 0; run 1 = 1; latest 0 = 11",
            "of 0 6 = 5");
        runs.on("the longest patience", TWO,
            "patience 100; link 0 1 0; begin 0 3; run 99 = 0; of 0 0 = 1; run 1 = 1; of 0 0 = 5; of 0 6 = 100");
        runs.on("set instead of what it was set to", TWO,
            "begin 0 3; run 1; all 5 = 10 12; run 1; all 5 = 12 12; crash 1; run 9 = 0; count 4 = 0; run 1 = 1",
            "count 4 = 1");
        runs.on("off when the site goes down", TWO,
            "begin 0 3; of 0 5 = 10; crash 0; of 0 5 = -1; crash 1; run 50 = 0; count 4 = 0");
        runs.on("off once it ran out", TWO,
            "link 0 1 0; begin 0 3; run 10 = 1; of 0 5 = -1; run 500 = 0; count 4 = 1");
        runs.on("one that collects votes aborts", THREE,
            "link 2 0 0; begin 0 7; run 9 = 3; of 0 2 = 1; run 1 = 1; of 0 0 = 5; of 0 2 = 0; count 1 = 6");
        runs.on("one that collects acknowledgements to commit attempts", TWO,
            "begin 0 3; run 2; crash 1; of 0 2 = 2; of 0 5 = 12; run 10 = 1; of 0 2 = 3; of 0 3 = 2; of 0 5 = 22",
            "of 0 0 = 2");
        runs.on("one that collects acknowledgements to abort attempts", THREE,
            "begin 0 7; run 1; crash 0; run 21; of 1 2 = 4; of 1 5 = 32; crash 2; run 9 = 0; run 1 = 1; of 1 2 = 3",
            "of 1 3 = 2; of 1 5 = 42; of 1 0 = 3");
        runs.on("one that does nothing attempts", TWO,
            "begin 0 3; run 1; crash 0; of 1 2 = 0; run 10 = 0; run 1 = 1; of 1 2 = 3; of 1 3 = 1; of 1 5 = 22");
        runs.on("one that collects states, too few, waits for patience + i", TWO,
            "begin 0 3; run 1; crash 0; run 20 = 1; of 1 2 = 3; run 1 = 1; of 1 2 = 0; of 1 3 = 1; of 1 5 = 33",
            "run 11 = 1; of 1 3 = 2");
    }

    // Site 1 attempts at 12, 33, 54, .. and gives it up at 22, 43, 64, ..; what it sends is lost a tick later.
    private static void longTime(Runs runs) {
        String alone = TWO + "begin 0 3; run 1; crash 0; run 499 = 47; count 0 = 500;";
        runs.on("attempts up to time 500", alone,
            "of 1 3 = 24; count 4 = 47; count 1 = 26; count 3 = 25; count 9 = 0");
        runs.on("attempts up to time 4000", alone,
            "run 500; run 500; run 500; run 500; run 500; run 500; run 500; count 0 = 4000; of 1 3 = 190",
            "count 4 = 380; count 1 = 192; count 3 = 191; of 1 2 = 0; of 1 5 = 4002; step = -1");
        runs.on("messages up to time 500", TWO,
            "begin 0 3; run 1; crash 0; link 1 0 20; run 499; of 1 3 = 24; count 3 = 24; count 9 = 1; count 2 = 1");
    }

    private static void timersOfDecidedSites(Runs runs) {
        runs.on("off when it commits", TWO,
            "begin 0 3; run 3; of 0 5 = 12; run 1; of 0 0 = 4; of 0 5 = -1; run 50 = 1; count 4 = 0");
        runs.on("off when it is told COMMIT", TWO,
            "begin 0 3; run 4; of 1 5 = 14; run 1 = 1; of 1 0 = 4; of 1 5 = -1; run 50 = 0");
        runs.on("off when it aborts", TWO,
            "begin 0 1; run 1; of 0 5 = 10; run 1; of 0 0 = 5; of 0 5 = -1; run 50 = 1; count 4 = 0");
        runs.on("off when it is told ABORT", THREE,
            "begin 0 3; run 2; of 1 5 = 12; run 1; of 1 0 = 5; of 1 5 = -1; run 50 = 0; count 4 = 0");
        runs.on("off when it begins with no, and when it votes no", TWO,
            "begin 0 2; of 0 5 = -1; reset; begin 0 1; run 1; of 1 0 = 5; of 1 5 = -1");
        runs.on("a decided site that is asked for its state sets none", TWO,
            "link 0 1 0; begin 0 3; run 10; of 0 0 = 5; link 0 1 1; reset; begin 0 3; run 4; all 0 = 4 2; crash 1",
            "recover 1; run 1 = 2; of 0 5 = -1; of 0 2 = 0; latest 0 = 4");
    }

    private static void order(Runs runs) {
        runs.on("by their time, not in the order in which they were sent", THREE,
            "link 0 1 5; begin 0 0; step = 1; latest 1 = 2; step = 5; latest 1 = 1");
        runs.on("messages of one time: sent by an earlier site, but later", THREE,
            "link 0 1 2; link 2 0 2; begin 0 7; run 2 = 2; step = 3; latest 2 = 2; step = 3; latest 2 = 1");
        runs.on("a message and a timer of one time: the message was sent before", TWO,
            "patience 10; link 0 1 10; begin 0 3; step = 10; latest 0 = 1; step = 10; latest 0 = 11; of 0 0 = 5");
        runs.on("a message and a timer of one time: the timer was set before", TWO,
            "link 1 0 9; begin 0 3; run 1; count 9 = 1; step = 10; latest 0 = 11; of 0 0 = 5; step = 10",
            "latest 0 = 2");
        runs.on("timers of one time: the one that was set before", THREE,
            "link 2 0 2; begin 2 7; run 2; all 5 = 12 12 10; crash 2; step = 12; latest 1 = 1; step = 12",
            "latest 0 = 11; latest 1 = 0");
        String bothCrashed = TWO + "begin 0 3; run 1; crash 0; crash 1; part 1 1;";
        runs.on("timers of one time: the lower number was set before", bothCrashed,
            "recover 0; recover 1; all 5 = 11 11; run 1; step = 11; latest 1 = 0; step = 11; latest 1 = 1");
        runs.on("timers of one time: the higher number was set before", bothCrashed,
            "recover 1; recover 0; all 5 = 11 11; run 1; step = 11; latest 1 = 1; step = 11; latest 1 = 0");
        runs.on("a timer that is set again takes its place anew", FOUR,
            "begin 2 15; run 1 = 3; all 5 = 11 12 10 14; crash 2; link 3 1 0; crash 3; recover 3; run 1 = 1",
            "all 5 = 12 12 -1 11; crash 3; step = 12; latest 0 = 11; latest 1 = 1; step = 12; latest 0 = 11",
            "latest 1 = 0");
    }

    private static void orderOfReceivers(Runs runs) {
        runs.on("VOTE?, PRECOMMIT and COMMIT to all others in the order of their numbers", FOUR,
            "begin 2 15; step = 1; latest 1 = 0; step = 1; latest 1 = 1; step = 1; latest 1 = 3; latest 0 = 1",
            "run 1 = 3; step = 3; latest 1 = 0; step = 3; latest 1 = 1; step = 3; latest 1 = 3; latest 0 = 6",
            "run 1 = 3; step = 5; latest 1 = 0; step = 5; latest 1 = 1; step = 5; latest 1 = 3; latest 0 = 9",
            "step = -1");
        runs.on("STATES? to all others", FOUR,
            "begin 2 15; run 1; crash 2; run 1; crash 1; recover 1; step = 3; latest 0 = 4; latest 1 = 0",
            "recover 2; step = 3; latest 1 = 2; step = 3; latest 1 = 3; latest 2 = 1");
        runs.on("ABORT to all others", FOUR,
            "begin 1 0; step = 1; latest 1 = 0; step = 1; latest 1 = 2; step = 1; latest 1 = 3; latest 0 = 10",
            "step = -1");
        runs.on("PREABORT to all others", FOUR,
            "begin 2 15; run 1; crash 2; run 20; of 0 2 = 4; step = 22; latest 0 = 7; latest 1 = 1; step = 22",
            "latest 0 = 7; latest 1 = 3; count 0 = 22");
    }

    private static void votes(Runs runs) {
        runs.on("all votes but one are not all", THREE,
            "link 2 0 2; begin 0 7; run 2 = 3; of 0 2 = 1; of 0 0 = 1; of 0 3 = 0; run 1 = 1; of 0 2 = 2",
            "of 0 0 = 2; of 0 3 = 1");
        runs.on("its own yes is there", TWO, "begin 0 3; run 1; of 0 2 = 1; run 1 = 1; of 0 2 = 2");
        runs.on("all votes, though not all weights: votes are of sites",
            "site 9; site 9; site 1; link 2 0 2; begin 0 7; run 2; of 0 2 = 1; run 1; of 0 0 = 2");
        runs.on("the last vote is a no", THREE,
            "link 2 0 2; begin 0 3; run 2 = 3; of 0 0 = 1; run 1; of 0 0 = 5; of 0 6 = 3");
        runs.on("the last vote comes when the timer ran out at that time", TWO,
            "link 1 0 9; begin 0 3; run 10 = 3; of 0 0 = 5; of 0 3 = 0");
        runs.on("the last vote comes one tick before", TWO,
            "link 1 0 8; begin 0 3; run 9 = 2; of 0 0 = 2; of 0 5 = 19");
    }

    // The leader, of weight 3, has PRECOMMIT at 2; acknowledgements of 2 each come at 4, in turn.
    private static String ledToCommit(String quorums) {
        return "site 3; site 2; site 2;" + quorums + "; begin 0 7; run 2 = 4;";
    }

    private static void acknowledgementsToCommit(Runs runs) {
        runs.on("the leader's own weight is the commit quorum", ledToCommit("quorums 3 5"),
            "of 0 0 = 4; of 0 6 = 2; of 0 3 = 1; of 0 5 = -1; count 1 = 8; run 1 = 4; all 0 = 4 4 4");
        runs.on("it is more than the commit quorum", ledToCommit("quorums 1 7"), "of 0 0 = 4; of 0 6 = 2");
        runs.on("it is less by one", ledToCommit("quorums 4 4"),
            "of 0 0 = 2; of 0 2 = 2; count 1 = 6; run 1; step = 4; of 0 0 = 4; of 0 6 = 4");
        runs.on("with one more it is the commit quorum", ledToCommit("quorums 5 3"),
            "run 1; of 0 0 = 2; step = 4; latest 2 = 1; of 0 0 = 4; of 0 6 = 4");
        runs.on("with one more it is less by one", ledToCommit("quorums 6 2"),
            "run 1; step = 4; of 0 0 = 2; of 0 2 = 2; step = 4; latest 2 = 2; of 0 0 = 4");
        runs.on("with all it is the commit quorum, V", ledToCommit("quorums 7 1"),
            "run 1; step = 4; of 0 0 = 2; step = 4; of 0 0 = 4; run 1; all 0 = 4 4 4");
        runs.on("the abort quorum does not matter", ledToCommit("quorums 7 1"),
            "run 1; all 0 = 2 2 2; all 2 = 2 0 0; step = 4; all 0 = 2 2 2");
    }

    // Site 1 has the states of 1, 2 and 3, all WAITING, of weights 1, 1 and 2, when its timer runs out at 22.
    private static String ledToAbort(String quorums) {
        return "site 1; site 1; site 1; site 2;" + quorums + "; begin 0 15; run 1 = 3; crash 0; run 20;"
            + "of 1 2 = 3; of 1 5 = 22; run 1 = 1; count 0 = 22;";
    }

    private static void acknowledgementsToAbort(Runs runs) {
        runs.on("the leader's own weight is the abort quorum", ledToAbort("quorums 5 1"),
            "of 1 0 = 5; of 1 6 = 22; of 1 2 = 0; of 1 5 = -1; run 1; all 0 = 1 5 5 5");
        runs.on("it is less by one; with one more it is the abort quorum", ledToAbort("quorums 5 2"),
            "of 1 0 = 3; of 1 2 = 4; of 1 3 = 1; of 1 5 = 32; run 1 = 2; all 0 = 1 3 3 3; all 5 = -1 32 35 36",
            "step = 24; latest 2 = 2; of 1 0 = 5");
        runs.on("with one more it is less by one", ledToAbort("quorums 5 3"),
            "run 1; step = 24; latest 0 = 8; latest 2 = 2; of 1 0 = 3; of 1 2 = 4; step = 24; latest 2 = 3",
            "of 1 0 = 5; of 1 6 = 24");
        runs.on("with all of them it is the abort quorum", ledToAbort("quorums 5 4"),
            "run 1; step = 24; of 1 0 = 3; step = 24; of 1 0 = 5; run 1; all 0 = 1 5 5 5");
    }

    // At 24 site 1, PRECOMMIT, has its own state and that of 2, WAITING, of weights 1 and 2; V is 4.
    private static String statesWithPrecommit(String quorums) {
        return "site 1; site 1; site 2;" + quorums + "; begin 0 7; run 1; link 0 2 0; run 2 = 3; crash 0;"
            + "all 0 = 2 2 1; run 20; of 1 2 = 3; of 1 5 = 24; run 1 = 1; count 0 = 24;";
    }

    private static void statesToCommit(Runs runs) {
        runs.on("WAITING and PRECOMMIT are the commit quorum", statesWithPrecommit("quorums 3 3"),
            "of 1 2 = 2; of 1 0 = 2; of 1 3 = 1; of 1 5 = 34; run 1; of 2 0 = 2; run 1; of 1 0 = 4");
        runs.on("they are more than the commit quorum", statesWithPrecommit("quorums 2 3"), "of 1 2 = 2; of 1 0 = 2");
        runs.on("they are it, and WAITING alone is the abort quorum: to commit goes first",
            statesWithPrecommit("quorums 3 2"),
            "of 1 2 = 2");
        runs.on("they are less by one, and WAITING is the abort quorum", statesWithPrecommit("quorums 4 2"),
            "of 1 2 = 4; of 1 0 = 2; of 1 3 = 1; of 1 5 = 34; run 1; of 2 0 = 3; run 1; of 1 0 = 5; run 1",
            "of 2 0 = 5");
        runs.on("they are less by one, and WAITING is less than the abort quorum by one",
            statesWithPrecommit("quorums 4 3"),
            "of 1 2 = 0; of 1 0 = 2; of 1 5 = 35");
        runs.on("no state there is PRECOMMIT, though WAITING is the commit quorum", ledToAbort("quorums 4 5"),
            "of 1 0 = 1; of 1 2 = 0; of 1 5 = 33");
    }

    private static void statesToAbort(Runs runs) {
        runs.on("WAITING is the abort quorum", ledToAbort("quorums 2 4"), "of 1 0 = 3; of 1 2 = 4");
        runs.on("WAITING is less than the abort quorum by one", ledToAbort("quorums 1 5"),
            "of 1 0 = 1; of 1 2 = 0; of 1 3 = 1; of 1 5 = 33");
    }

    private static void yielding(Runs runs) {
        String leading = ledToAbort("quorums 2 4");
        runs.on("one that collects acknowledgements to abort yields to the number below its own", leading,
            "recover 0; run 1; of 1 2 = 0; of 1 5 = 34; of 1 0 = 3; of 1 3 = 1");
        runs.on("it does not yield to the number above its own", leading,
            "crash 2; recover 2; run 1; of 1 2 = 4; of 1 5 = 32");
        String collecting = THREE + "begin 0 7; run 1; crash 0; run 11; of 1 2 = 3; of 1 5 = 22; all 5 = -1 22 13;";
        runs.on("one that collects states yields to the number below its own", collecting,
            "recover 0; run 1; of 1 2 = 0; of 1 5 = 24");
        runs.on("it does not yield to the number above its own", collecting,
            "crash 2; recover 2; run 1; of 1 2 = 3; of 1 5 = 22; of 2 2 = 0; of 2 5 = 25");
        runs.on("one that collects acknowledgements to commit yields to the number below its own", THREE,
            "begin 1 7; run 2; of 1 2 = 2; crash 0; recover 0; run 1; of 1 2 = 0; of 1 5 = 14; of 1 0 = 2");
        runs.on("it does not yield to the number above its own", THREE,
            "begin 1 7; run 2; of 1 2 = 2; crash 2; recover 2; run 1; of 1 2 = 2; of 1 5 = 12");
        runs.on("one that collects votes yields to neither", THREE,
            "link 0 1 9; begin 1 7; run 1; crash 0; recover 0; crash 2; recover 2; link 2 1 9; run 1; of 1 2 = 1",
            "of 1 5 = 10");
        runs.on("one that does nothing yields to both", THREE,
            "begin 0 7; run 1; of 1 5 = 12; crash 2; recover 2; run 1; of 1 5 = 13; of 1 2 = 0; crash 0; run 1",
            "recover 0; run 1; of 1 5 = 15; of 1 2 = 0");
    }
}
