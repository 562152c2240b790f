/**
 * The edges that the promises name, a run for each: the values just inside and just outside of each
 * limit, and each refused call with what it leaves as it was. A title begins with the promise's number.
 */
public final class EdgesTest {
    private static final String TWO = "site 1; site 1;";
    private static final String THREE = "site 1; site 1; site 1;";
    private static final String EIGHT = "site 1; site 1; site 1; site 1; site 1; site 1; site 1; site 1;";
    private static final String TO_3990 =
        "run 500; run 500; run 500; run 500; run 500; run 500; run 500; run 490; count 0 = 3990;";
    // The leader is gone after the votes; 1 and 2 have become ready to abort when this ends, at 23.
    private static final String READY_TO_ABORT =
        THREE + "begin 0 7; run 1 = 2; crash 0; run 22; all 0 = 1 3 3; count 0 = 23;";

    public static void main(String[] args) {
        Runs runs = new Runs("EdgesTest");
        newObject(runs);
        site(runs);
        quorums(runs);
        firstQuorums(runs);
        link(runs);
        part(runs);
        patience(runs);
        begin(runs);
        crash(runs);
        recover(runs);
        run(runs);
        step(runs);
        stepAtTheEnd(runs);
        reset(runs);
        of(runs);
        count(runs);
        delay(runs);
        weight(runs);
        latest(runs);
        check(runs);
        runs.end();
    }

    private static void newObject(Runs runs) {
        runs.on("1 no sites", "count 5 = 0; of 0 0 = -1; of 0 1 = -1; of 0 4 = -1; weight 0 = 0");
        runs.on("1 nothing came, nothing is counted, nothing is to come",
            "count 0 = 0; count 1 = 0; count 2 = 0; count 3 = 0; count 4 = 0; count 9 = 0; latest 0 = 0",
            "!step = -1; check = 1");
        runs.on("1 calls that name a site, without one",
            "!crash 0 = 0; !recover 0 = 0; !begin 0 1 = 0; !link 0 1 1 = 0; !link 0 0 1 = 0; delay 0 1 = -1");
    }

    private static void site(Runs runs) {
        runs.on("2 one more site: its number, from 0", "site 1 = 0; site 1 = 1; site 1 = 2; count 5 = 3");
        runs.on("2 it is up", "site 1; of 0 1 = 1; recover 0 = 0; site 1; all 1 = 1 1");
        runs.on("2 weights just inside", "site 1 = 0; site 9 = 1; all 4 = 1 9; count 5 = 2");
        runs.on("2 a weight too small",
            "site 5; !site 0 = -1; !site -1 = -1; !site min = -1; count 5 = 1; site 1 = 1");
        runs.on("2 a weight too large", "site 5; !site 10 = -1; !site max = -1; count 5 = 1; site 9 = 1");
        runs.on("2 just before the transaction begins, just after, and when it is decided", TWO,
            "site 1 = 2; begin 0 7; !site 1 = -1; run 5 = 10; all 0 = 4 4 4; !site 1 = -1; count 5 = 3");
        runs.on("2 when the transaction has begun and is over by a no", TWO,
            "begin 0 0; !site 1 = -1; run 9; !site 1 = -1");
        runs.on("2 when it has begun no more", TWO, "begin 0 3; !site 1 = -1; reset; site 4 = 2; of 2 4 = 4");
        runs.on("2 a refused begin is none", TWO, "begin 2 3 = 0; site 1 = 2");
        runs.on("2 the eighth, and the ninth",
            "site 1; site 1; site 1; site 1; site 1; site 1; site 1; count 5 = 7; site 9 = 7; count 5 = 8",
            "!site 1 = -1; !site 9 = -1; count 5 = 8; of 7 4 = 9; of 8 4 = -1");
        runs.on("2 the ninth after a reset", EIGHT, "reset; !site 1 = -1; count 5 = 8");
    }

    private static void quorums(Runs runs) {
        String seven = "site 3; site 2; site 2;";
        runs.on("3 both at their edges", seven,
            "quorums 1 7 = 1; count 6 = 1; count 7 = 7; quorums 7 1 = 1; count 6 = 7; count 7 = 1; quorums 7 7 = 1",
            "count 6 = 7; count 7 = 7");
        runs.on("3 a commit quorum of V + 1", seven, "!quorums 8 1 = 0; !quorums 8 7 = 0; !quorums max 7 = 0");
        runs.on("3 an abort quorum of V + 1", seven, "!quorums 1 8 = 0; !quorums 7 8 = 0; !quorums 7 max = 0");
        runs.on("3 a commit quorum of 0", seven,
            "!quorums 0 7 = 0; !quorums 0 8 = 0; !quorums -1 7 = 0; !quorums min 7 = 0");
        runs.on("3 an abort quorum of 0", seven,
            "!quorums 7 0 = 0; !quorums 8 0 = 0; !quorums 7 -1 = 0; !quorums 7 min = 0");
        runs.on("3 together V + 1", seven,
            "quorums 3 5 = 1; count 6 = 3; count 7 = 5; quorums 5 3 = 1; quorums 2 6 = 1; quorums 4 4 = 1");
        runs.on("3 together V", seven,
            "quorums 3 5; !quorums 3 4 = 0; !quorums 4 3 = 0; !quorums 1 6 = 0; !quorums 6 1 = 0");
        runs.on("3 sums that wrap around", seven,
            "!quorums max max = 0; !quorums max 1 = 0; !quorums 1 max = 0; !quorums min min = 0",
            "!quorums min max = 0; !quorums max min = 0");
        runs.on("3 no sites",
            "!quorums 1 1 = 0; !quorums 0 0 = 0; !quorums 0 1 = 0; !quorums 1 0 = 0; count 6 = 1; count 7 = 1");
        runs.on("3 V of 1",
            "site 1; quorums 1 1 = 1; !quorums 2 1 = 0; !quorums 1 2 = 0; !quorums 1 0 = 0; !quorums 0 1 = 0");
        runs.on("3 the largest V",
            "site 9; site 9; site 9; site 9; site 9; site 9; site 9; site 9; quorums 72 72 = 1; quorums 72 1 = 1",
            "quorums 36 37 = 1; !quorums 36 36 = 0; !quorums 73 1 = 0; !quorums 1 73 = 0; count 6 = 36",
            "count 7 = 37");
        runs.on("3 the sum of weights, not the number of sites",
            "site 9; site 9; quorums 18 1 = 1; !quorums 1 17 = 0");
        runs.on("3 when the transaction has begun", TWO,
            "quorums 2 1 = 1; begin 0 3; !quorums 2 2 = 0; !quorums 1 2 = 0; run 5; all 0 = 4 4; !quorums 1 2 = 0",
            "reset; count 6 = 2; count 7 = 1; quorums 1 2 = 1");
    }

    private static void firstQuorums(Runs runs) {
        runs.on("3 V / 2 + 1 without the rest, V of 0, 1, 2, 3",
            "count 6 = 1; count 7 = 1; site 1; count 6 = 1; count 7 = 1; site 1; count 6 = 2; count 7 = 2; site 1",
            "count 6 = 2; count 7 = 2");
        runs.on("3 V / 2 + 1, V of 63 and 71",
            "site 9; site 9; site 9; site 9; site 9; site 9; site 9; count 6 = 32; site 8; count 6 = 36",
            "count 7 = 36");
        runs.on("3 V / 2 + 1, the largest V",
            "site 9; site 9; site 9; site 9; site 9; site 9; site 9; site 9; count 6 = 37; count 7 = 37");
        runs.on("3 a site that is added undoes what was told",
            "site 3; site 3; quorums 6 1 = 1; site 3; count 6 = 5; count 7 = 5; quorums 9 1 = 1; site 1",
            "count 6 = 6");
        runs.on("3 a site that is refused does not",
            "site 3; site 3; quorums 6 1 = 1; !site 0 = -1; count 6 = 6; count 7 = 1");
        runs.on("3 nor do a reset and a begin",
            "site 3; site 3; quorums 6 1; begin 0 3; count 6 = 6; count 7 = 1; reset; count 6 = 6; count 7 = 1");
    }

    private static void link(Runs runs) {
        runs.on("4 delays just inside", TWO,
            "link 0 1 20 = 1; delay 0 1 = 20; link 0 1 1 = 1; delay 0 1 = 1; link 0 1 0 = 1; delay 0 1 = 0");
        runs.on("4 a delay too small", TWO, "link 0 1 4; !link 0 1 -1 = 0; !link 0 1 min = 0; delay 0 1 = 4");
        runs.on("4 a delay too large", TWO, "link 0 1 4; !link 0 1 21 = 0; !link 0 1 max = 0; delay 0 1 = 4");
        runs.on("4 the first and the last site", EIGHT,
            "link 0 7 3 = 1; link 7 0 4 = 1; delay 0 7 = 3; delay 7 0 = 4");
        runs.on("4 a site past the last one", TWO,
            "!link 2 0 3 = 0; !link 0 2 3 = 0; !link 2 3 3 = 0; !link max 0 3 = 0; !link 0 max 3 = 0");
        runs.on("4 past the eighth", EIGHT, "!link 8 0 3 = 0; !link 0 8 3 = 0; !link 7 8 3 = 0");
        runs.on("4 a site before the first one", TWO,
            "!link -1 0 3 = 0; !link 0 -1 3 = 0; !link min 1 3 = 0; !link 1 min 3 = 0");
        runs.on("4 a site with itself", TWO, "!link 0 0 3 = 0; !link 1 1 3 = 0; !link 1 1 0 = 0; !link 2 2 3 = 0");
        runs.on("4 a site that is not there yet has a link of 1 when it is", TWO,
            "!link 0 2 7 = 0; site 1; delay 0 2 = 1");
        runs.on("4 one way only", TWO, "link 0 1 9; delay 1 0 = 1; link 1 0 0; delay 0 1 = 9; delay 1 0 = 0");
        runs.on("4 from now on: what was sent before comes as it was to come", TWO,
            "link 0 1 3; begin 0 3; link 0 1 1 = 1; run 2 = 0; run 1 = 1; of 1 6 = 3");
        runs.on("4 from now on: what was sent on a link that is cut since comes", TWO,
            "begin 0 3; link 0 1 0 = 1; run 1 = 1; of 1 0 = 1; count 3 = 0");
        runs.on("4 from now on: what was lost on a link that is mended since does not come", TWO,
            "link 0 1 0; begin 0 3; link 0 1 1 = 1; run 9 = 0; count 2 = 0; count 3 = 1");
        runs.on("4 of sites that are down, and when it has begun", TWO,
            "crash 0; crash 1; link 0 1 2 = 1; recover 1; begin 1 3; link 1 0 5 = 1; delay 1 0 = 5");
    }

    private static void part(Runs runs) {
        runs.on("5 delays just inside", TWO,
            "part 3 1 = 2; delay 0 1 = 1; part 3 20 = 2; delay 0 1 = 20; delay 1 0 = 20");
        runs.on("5 a delay too small", TWO,
            "part 3 4; !part 1 0 = -1; !part 3 0 = -1; !part 1 -1 = -1; !part 1 min = -1; delay 0 1 = 4");
        runs.on("5 a delay too large", TWO,
            "part 3 4; !part 1 21 = -1; !part 3 21 = -1; !part 1 max = -1; delay 1 0 = 4");
        runs.on("5 a wrong delay where there are no links",
            "!part 0 0 = -1; !part 0 21 = -1; part 0 1 = 0; site 1; !part 1 0 = -1; part 1 20 = 0");
        runs.on("5 how many links: none, of one site none, of two 2, of eight 56",
            "part 1 1 = 0; site 1; part 1 1 = 0; site 1; part 1 1 = 2; site 1; part 1 1 = 6; site 1; part 1 1 = 12",
            "site 1; part 1 1 = 20; site 1; part 1 1 = 30; site 1; part 1 1 = 42; site 1; part 1 1 = 56");
        runs.on("5 links that were as they are now count, too", TWO,
            "part 1 5 = 2; part 1 5 = 2; part 3 1 = 2; part 3 1 = 2");
        runs.on("5 no site is told, and all are", THREE,
            "part 0 7 = 6; delay 0 1 = 7; delay 2 0 = 7; part 7 8 = 6; delay 0 1 = 8; delay 2 0 = 8");
        runs.on("5 both ways are cut, and both parts within get the delay",
            "site 1; site 1; site 1; site 1; link 0 2 0; part 3 6 = 12; delay 0 1 = 6; delay 1 0 = 6",
            "delay 2 3 = 6; delay 3 2 = 6; delay 0 2 = 0; delay 2 0 = 0; delay 0 3 = 0; delay 3 0 = 0",
            "delay 1 2 = 0; delay 2 1 = 0; delay 1 3 = 0; delay 3 1 = 0");
        runs.on("5 the bit of the eighth site", EIGHT,
            "part 128 2 = 56; delay 7 0 = 0; delay 0 7 = 0; delay 7 6 = 0; delay 0 6 = 2");
        runs.on("5 the bit past the last site counts for nothing", TWO,
            "part 4 3 = 2; delay 0 1 = 3; delay 1 0 = 3; part 5 3 = 2; delay 0 1 = 0");
        runs.on("5 bits past the eighth count for nothing", EIGHT,
            "part 256 3 = 56; delay 0 7 = 3; part 257 4 = 56; delay 0 7 = 0; delay 1 7 = 4");
        runs.on("5 all bits, the highest bit, and all but it", TWO,
            "part -1 3 = 2; delay 0 1 = 3; part min 4 = 2; delay 0 1 = 4; part max 5 = 2; delay 0 1 = 5",
            "part -2 6 = 2; delay 0 1 = 0");
        runs.on("5 a site that is added has links of 1 to both parts", TWO,
            "part 1 5; site 1; delay 0 2 = 1; delay 2 1 = 1; delay 0 1 = 0");
    }

    private static void patience(Runs runs) {
        runs.on("6 at first 10", "count 8 = 10");
        runs.on("6 just inside", TWO,
            "patience 5 = 1; count 8 = 5; patience 100 = 1; count 8 = 100; begin 0 3; of 0 5 = 100");
        runs.on("6 too small", TWO,
            "patience 7; !patience 4 = 0; !patience 0 = 0; !patience -1 = 0; !patience min = 0; count 8 = 7");
        runs.on("6 too large", TWO, "patience 7; !patience 101 = 0; !patience max = 0; count 8 = 7");
        runs.on("6 when the transaction has begun", TWO,
            "patience 7 = 1; begin 0 3; !patience 8 = 0; run 5; all 0 = 4 4; !patience 8 = 0; count 8 = 7; reset",
            "patience 8 = 1");
        runs.on("6 after a refused begin", TWO, "begin -1 3 = 0; patience 8 = 1; count 8 = 8");
    }

    private static void begin(Runs runs) {
        runs.on("7 at the first and at the last site", TWO,
            "begin 0 3 = 1; all 0 = 1 0; reset; begin 1 3 = 1; all 0 = 0 1");
        runs.on("7 at the eighth", EIGHT, "begin 7 255 = 1; of 7 0 = 1; count 1 = 7");
        runs.on("7 past the last site", TWO, "!begin 2 3 = 0; !begin 8 3 = 0; !begin max 3 = 0");
        runs.on("7 past the eighth", EIGHT, "!begin 8 255 = 0; !begin 31 255 = 0; !begin 32 255 = 0");
        runs.on("7 before the first site", TWO, "!begin -1 3 = 0; !begin min 3 = 0");
        runs.on("7 a site that is down, and up again", TWO,
            "crash 0; !begin 0 3 = 0; !begin 0 0 = 0; recover 0; begin 0 3 = 1");
        runs.on("7 another one is down", TWO, "crash 1; begin 0 3 = 1; of 0 0 = 1");
        runs.on("7 when it has begun: just after, underway, decided", TWO,
            "begin 0 3 = 1; !begin 0 3 = 0; !begin 1 3 = 0; !begin 0 0 = 0; run 3 = 3; !begin 1 0 = 0; run 2 = 2",
            "all 0 = 4 4; !begin 0 3 = 0; !begin 1 0 = 0; check = 1");
        runs.on("7 when it has begun with a no", TWO,
            "begin 0 0 = 1; !begin 0 3 = 0; !begin 1 3 = 0; run 1 = 1; !begin 1 3 = 0");
        runs.on("7 when it has begun no more", TWO, "begin 0 0 = 1; reset; begin 0 3 = 1; run 5 = 5; all 0 = 4 4");
        runs.on("7 votes by bits: the one that begins, the other one, both, none", TWO,
            "begin 0 1 = 1; run 1; all 0 = 1 5; reset; begin 0 2 = 1; all 0 = 5 0; reset; begin 0 3; run 1",
            "all 0 = 1 1; reset; begin 0 0; all 0 = 5 0; run 1 = 1; all 0 = 5 5; latest 0 = 10");
        runs.on("7 the vote of the eighth", EIGHT,
            "begin 0 127 = 1; run 1 = 7; all 0 = 1 1 1 1 1 1 1 5; reset; begin 0 255; run 1",
            "all 0 = 1 1 1 1 1 1 1 1");
        runs.on("7 bits of no site", TWO,
            "begin 0 7 = 1; run 5 = 5; all 0 = 4 4; check = 1; reset; begin 0 -4 = 1; of 0 0 = 5; reset",
            "begin 0 min = 1; of 0 0 = 5; reset; begin 0 256; of 0 0 = 5");
        runs.on("7 one site alone: its own is all votes",
            "site 1; begin 0 1 = 1; of 0 0 = 4; of 0 3 = 1; of 0 2 = 0; count 1 = 0; reset; begin 0 0 = 1",
            "of 0 0 = 5; of 0 3 = 0");
    }

    private static void crash(Runs runs) {
        runs.on("8 the first and the last site", EIGHT, "crash 0 = 1; crash 7 = 1; all 1 = 0 1 1 1 1 1 1 0");
        runs.on("8 past the last site", TWO, "!crash 2 = 0; !crash 8 = 0; !crash max = 0; all 1 = 1 1");
        runs.on("8 past the eighth", EIGHT, "!crash 8 = 0");
        runs.on("8 before the first site", TWO, "!crash -1 = 0; !crash min = 0; all 1 = 1 1");
        runs.on("8 one that is down", TWO, "crash 0 = 1; !crash 0 = 0; recover 0 = 1; crash 0 = 1; !crash 0 = 0");
        runs.on("8 one that is down, underway", THREE,
            "begin 0 7; run 2; crash 0 = 1; !crash 0 = 0; run 1; !crash 0 = 0; of 0 0 = 2");
        runs.on("8 all of them", TWO,
            "begin 0 3; crash 0 = 1; crash 1 = 1; run 50 = 0; count 3 = 1; count 4 = 0; all 0 = 1 0");
    }

    private static void recover(Runs runs) {
        runs.on("9 the first and the last site", EIGHT,
            "crash 0; crash 7; recover 7 = 1; all 1 = 0 1 1 1 1 1 1 1; recover 0 = 1; of 0 1 = 1");
        runs.on("9 past the last site", TWO, "!recover 2 = 0; !recover 8 = 0; !recover max = 0");
        runs.on("9 past the eighth", EIGHT, "!recover 8 = 0");
        runs.on("9 before the first site", TWO, "!recover -1 = 0; !recover min = 0");
        runs.on("9 one that is up", TWO, "!recover 0 = 0; crash 0; recover 0 = 1; !recover 0 = 0");
        runs.on("9 one that is up, underway", THREE,
            "begin 0 7; !recover 0 = 0; !recover 1 = 0; run 2; !recover 0 = 0; !recover 1 = 0; run 1",
            "!recover 1 = 0");
        runs.on("9 before it has begun, and after a reset", TWO,
            "crash 0; recover 0 = 1; of 0 0 = 0; count 1 = 0; begin 0 3; reset; crash 1; recover 1 = 1; of 1 0 = 0",
            "of 1 2 = 0; of 1 5 = -1; count 1 = 0");
        runs.on("9 INITIAL when it has begun", TWO,
            "crash 1; run 2; begin 0 3; recover 1 = 1; of 1 0 = 5; of 1 6 = 2; of 1 2 = 0; of 1 5 = -1",
            "count 1 = 1");
        runs.on("9 WAITING", TWO,
            "begin 0 3; crash 0; recover 0 = 1; of 0 0 = 1; of 0 2 = 3; of 0 3 = 1; of 0 5 = 10; count 1 = 2");
        runs.on("9 PRECOMMIT", TWO,
            "begin 0 3; run 2; crash 0; recover 0 = 1; of 0 0 = 2; of 0 2 = 3; of 0 3 = 2; of 0 5 = 12",
            "count 1 = 4");
        runs.on("9 PREABORT", READY_TO_ABORT,
            "crash 1; recover 1 = 1; of 1 0 = 3; of 1 2 = 3; of 1 3 = 2; of 1 5 = 33");
        runs.on("9 COMMITTED", TWO,
            "begin 0 3; run 5; crash 0; recover 0 = 1; of 0 0 = 4; of 0 2 = 0; of 0 3 = 1; of 0 5 = -1; of 0 6 = 4",
            "count 1 = 5");
        runs.on("9 ABORTED", TWO,
            "begin 0 0; crash 0; recover 0 = 1; of 0 0 = 5; of 0 2 = 0; of 0 5 = -1; of 0 6 = 0; count 1 = 1");
    }

    private static void run(Runs runs) {
        runs.on("10 ticks just inside",
            "run 0 = 0; count 0 = 0; run 500 = 0; count 0 = 500; run 1 = 0; count 0 = 501");
        runs.on("10 ticks too few", TWO,
            "run 3; begin 0 3; !run -1 = -1; !run -3 = -1; !run min = -1; count 0 = 3; run 1 = 1");
        runs.on("10 ticks too many", TWO,
            "begin 0 3; !run 501 = -1; !run 4000 = -1; !run max = -1; count 0 = 0; run 500 = 5");
        runs.on("10 just up to 4000", TO_3990, "run 10 = 0; count 0 = 4000; run 0 = 0; count 0 = 4000");
        runs.on("10 beyond 4000", TO_3990,
            "!run 11 = -1; !run 500 = -1; count 0 = 3990; run 9 = 0; !run 2 = -1; run 1 = 0; !run 1 = -1",
            "!run 500 = -1; count 0 = 4000");
        runs.on("10 beyond 4000, with much to come", TWO, TO_3990,
            "begin 0 3; !run 11 = -1; all 0 = 1 0; count 9 = 1; run 10 = 5; all 6 = 3994 3995");
        runs.on("10 what comes at time 4000 itself", TWO, TO_3990,
            "link 0 1 10; begin 0 1; run 10 = 2; all 0 = 5 5; all 6 = 4000 4000");
        runs.on("10 what would come at 4001 stays on its way", TWO, TO_3990,
            "link 0 1 11; begin 0 0; run 10 = 0; count 9 = 1; of 1 0 = 0; run 0 = 0; step = -1; count 9 = 1");
        runs.on("10 a reset makes time free again", TO_3990,
            "run 10; !run 1 = -1; reset; run 500 = 0; count 0 = 500");
        runs.on("10 no ticks: what is still to come at this time comes", THREE,
            "begin 0 7; step = 1; run 0 = 1; count 0 = 1; run 0 = 0");
        runs.on("10 messages up to then, not one tick later", TWO,
            "link 0 1 7; begin 0 3; run 6 = 0; run 1 = 1; of 1 6 = 7");
        runs.on("10 timers up to then, not one tick later", TWO,
            "link 0 1 0; begin 0 3; run 9 = 0; of 0 0 = 1; run 1 = 1; of 0 0 = 5; of 0 6 = 10");
        runs.on("10 what comes of what comes comes, too", TWO,
            "begin 0 3; run 500 = 5; all 0 = 4 4; all 6 = 4 5; count 0 = 500");
        runs.on("10 messages and timers are counted, lost messages are not", THREE,
            "crash 2; begin 0 7; run 11 = 4; count 2 = 3; count 4 = 1; count 3 = 2");
    }

    private static void step(Runs runs) {
        runs.on("11 just what comes next, of two at one time", THREE,
            "begin 0 7; step = 1; all 0 = 1 1 0; count 2 = 1; step = 1; all 0 = 1 1 1; count 2 = 2");
        runs.on("11 its time, to which time goes", TWO,
            "link 0 1 20; patience 50; begin 0 3; step = 20; count 0 = 20; step = 21; count 0 = 21");
        runs.on("11 at this time, time stays", THREE,
            "begin 0 7; run 2; step = 3; count 0 = 3; step = 3; count 0 = 3");
        runs.on("11 a timer", TWO,
            "link 0 1 0; begin 0 3; step = 10; latest 0 = 11; of 0 0 = 5; count 4 = 1; count 0 = 10");
        runs.on("11 messages that are lost before it are lost", THREE,
            "crash 1; link 0 2 4; begin 0 7; step = 4; count 3 = 1; count 9 = 1; count 2 = 1; latest 1 = 2");
        runs.on("11 of one time, those before it are lost, those after it are not yet",
            "site 1; site 1; site 1; site 1; crash 1; crash 3; begin 0 15; step = 1; latest 1 = 2; count 3 = 1",
            "count 9 = 2; run 0 = 0; count 3 = 2; count 9 = 1");
        runs.on("11 nothing is to come", TWO,
            "run 7; !step = -1; count 0 = 7; begin 0 3; run 9 = 5; !step = -1; count 0 = 16");
        runs.on("11 only what is lost is to come: it is lost, time goes to the last", THREE,
            "crash 1; crash 2; link 0 1 9; link 0 2 3; begin 0 0; step = -1; count 0 = 9; count 3 = 2; count 9 = 0",
            "count 2 = 0; latest 0 = 0; !step = -1");
    }

    private static void stepAtTheEnd(Runs runs) {
        runs.on("11 a message at time 4000", TWO, TO_3990,
            "link 0 1 10; begin 0 0; step = 4000; latest 0 = 10; of 1 6 = 4000; !step = -1");
        runs.on("11 a message at time 4001", TWO, TO_3990,
            "link 0 1 11; begin 0 0; !step = -1; count 0 = 3990; count 9 = 1; of 1 0 = 0; count 3 = 0");
        runs.on("11 a timer at time 4000", TWO, TO_3990,
            "link 0 1 0; patience 10; begin 0 3; step = 4000; latest 0 = 11; of 0 0 = 5; count 0 = 4000");
        runs.on("11 a timer at time 4001", TWO, TO_3990,
            "link 0 1 0; patience 11; begin 0 3; !step = -1; count 0 = 3990; of 0 5 = 4001; of 0 0 = 1",
            "count 4 = 0");
        runs.on("11 one to be lost at 4000, one at 4001", THREE, TO_3990,
            "crash 1; crash 2; link 0 1 11; link 0 2 10; begin 0 0; step = -1; count 0 = 4000; count 3 = 1",
            "count 9 = 1; !step = -1; recover 1; step = -1; count 2 = 0");
        runs.on("11 two to be lost by then, and a timer beyond it", THREE, TO_3990,
            "patience 11; crash 1; crash 2; link 0 1 7; link 0 2 2; begin 0 7; step = -1; count 0 = 3997",
            "count 3 = 2; of 0 5 = 4001; !step = -1; run 3 = 0; !step = -1; count 4 = 0");
        runs.on("11 one to be lost beyond it, and no other", TWO, TO_3990,
            "crash 1; link 0 1 11; begin 0 0; !step = -1; count 0 = 3990; count 3 = 0; count 9 = 1");
    }

    private static void reset(Runs runs) {
        runs.on("12 on a new object, and twice",
            "!reset = 1; site 1; !reset = 1; begin 0 1; reset = 1; !reset = 1; count 5 = 1");
        runs.on("12 no transaction any more", TWO,
            "begin 0 3; run 5; reset = 1; quorums 2 1 = 1; patience 6 = 1; site 1 = 2; begin 0 7 = 1");
        runs.on("12 no transaction any more: one that comes up does nothing", TWO,
            "begin 0 3; run 2; reset = 1; crash 0; recover 0; of 0 0 = 0; of 0 2 = 0; count 1 = 0");
        runs.on("12 no message to come", TWO,
            "link 0 1 9; begin 0 3; run 2; reset = 1; count 9 = 0; run 100 = 0; all 0 = 0 0; count 2 = 0",
            "count 3 = 0");
        runs.on("12 no timer to come", TWO,
            "link 0 1 0; begin 0 3; run 2; of 0 5 = 10; reset = 1; of 0 5 = -1; step = -1; run 100 = 0",
            "count 4 = 0");
        runs.on("12 no message to come into the next transaction", TWO,
            "link 0 1 9; begin 0 1; run 2; reset = 1; link 0 1 1; begin 0 3; run 5 = 5; all 0 = 4 4; run 20 = 0",
            "count 2 = 5");
        for (int start = 0; start <= 70; start++) {
            runs.on("12 no message to come, whenever it was to come", TWO,
                "patience 50; link 0 1 20; run " + start + "; begin 0 0; run 1; reset = 1; run " + start,
                "link 0 1 1; link 1 0 20; begin 0 3; run 1 = 1; run 19 = 0; count 2 = 1; run 1 = 1; of 0 2 = 2");
        }
        runs.on("12 no attempt", TWO,
            "begin 0 3; run 2; crash 0; recover 0; of 0 3 = 2; reset = 1; of 0 3 = 0; begin 0 3; run 2; of 0 3 = 1",
            "latest 3 = 0; run 1; latest 3 = 1");
        runs.on("12 nothing else is done by a site", TWO,
            "begin 0 3; of 0 2 = 1; reset = 1; of 0 2 = 0; begin 1 3; run 2; of 1 2 = 2; of 0 2 = 0; reset = 1",
            "all 2 = 0 0");
        runs.on("12 all sites are up", THREE,
            "crash 0; crash 2; reset = 1; all 1 = 1 1 1; recover 0 = 0; begin 0 7 = 1; run 5 = 10");
        runs.on("12 all sites are INITIAL, at first", READY_TO_ABORT,
            "reset = 1; all 0 = 0 0 0; all 6 = 0 0 0; weight 0 = 3; weight 3 = 0");
        runs.on("12 decided sites, too", TWO,
            "begin 0 3; run 9; all 0 = 4 4; reset = 1; all 0 = 0 0; all 6 = 0 0; begin 0 1; run 9; all 0 = 5 5",
            "reset = 1; all 0 = 0 0; check = 1");
        runs.on("12 time and all that is counted are 0", THREE,
            "crash 2; begin 0 7; run 20; count 1 = 5; count 2 = 3; count 3 = 2; count 4 = 1; reset = 1",
            "count 0 = 0; count 1 = 0; count 2 = 0; count 3 = 0; count 4 = 0; count 9 = 0");
        runs.on("12 nothing came latest", THREE,
            "begin 0 7; run 1; crash 1; recover 1; run 2; latest 0 = 5; latest 3 = 1; latest 4 = 1; reset = 1",
            "latest 0 = 0; latest 3 = 0; latest 4 = 0");
        runs.on("12 weights and the number of sites stay",
            "site 2; site 9; begin 0 3; reset = 1; count 5 = 2; all 4 = 2 9; weight 0 = 11");
        runs.on("12 quorums stay", "site 2; site 9; quorums 10 3; begin 0 3; reset = 1; count 6 = 10; count 7 = 3");
        runs.on("12 links stay", THREE,
            "part 3 20; link 0 2 7; begin 0 7; reset = 1; delay 0 1 = 20; delay 1 0 = 20; delay 0 2 = 7",
            "delay 2 0 = 0; delay 1 2 = 0");
        runs.on("12 patience stays", TWO,
            "patience 100; begin 0 3; reset = 1; count 8 = 100; begin 0 3; of 0 5 = 100");
        runs.on("12 votes do not", TWO,
            "begin 0 1; run 1; reset = 1; begin 0 3; run 5 = 5; all 0 = 4 4; reset; begin 0 1; run 1; all 0 = 1 5");
    }

    private static void of(Runs runs) {
        runs.on("13 what just inside", "site 7; run 3; begin 0 1; of 0 0 = 4; of 0 6 = 3");
        runs.on("13 another what", "site 7; of 0 -1 = -1; of 0 7 = -1; of 0 min = -1; of 0 max = -1");
        runs.on("13 the first and the last site",
            "site 3; of 0 4 = 3; site 5; site 1; site 1; site 1; site 1; site 1; site 8; of 0 4 = 3; of 7 4 = 8");
        runs.on("13 no such site", TWO,
            "of 2 0 = -1; of 2 1 = -1; of 2 6 = -1; of -1 0 = -1; of -1 4 = -1; of 8 0 = -1; of max 1 = -1",
            "of min 1 = -1");
        runs.on("13 past the eighth", EIGHT, "of 7 1 = 1; of 8 1 = -1; of 8 5 = -1");
        runs.on("13 neither", "of 0 7 = -1; of -1 -1 = -1; site 1; of 1 7 = -1");
        runs.on("13 whether it is up", "site 1; of 0 1 = 1; crash 0; of 0 1 = 0; recover 0; of 0 1 = 1");
        runs.on("13 the timer's time when it is off", TWO,
            "of 0 5 = -1; begin 0 3; of 0 5 = 10; of 1 5 = -1; crash 0; of 0 5 = -1; recover 0; of 0 5 = 10");
        runs.on("13 the timer's time is no count of ticks left", TWO,
            "run 4; begin 0 3; of 0 5 = 14; run 1; of 0 5 = 14; of 1 5 = 16");
        runs.on("13 the time of the state, 0 at first", TWO,
            "run 4; site 1; all 6 = 0 0 0; begin 0 7; all 6 = 4 0 0; run 1; all 6 = 4 5 5; run 1; all 6 = 6 5 5");
        runs.on("13 the time of the state stays when a site goes down and comes up", TWO,
            "run 4; begin 0 3; run 2; crash 0; of 0 6 = 6; run 1; recover 0; of 0 6 = 6");
        runs.on("13 asking does nothing", READY_TO_ABORT, "!of 0 0 = 1; !of 1 2 = 4; !of 3 0 = -1; !of 0 7 = -1");
    }

    private static void count(Runs runs) {
        runs.on("14 what just inside", TWO, "run 3; begin 0 3; count 0 = 3; count 9 = 1");
        runs.on("14 another what", TWO, "!count -1 = -1; !count 10 = -1; !count min = -1; !count max = -1");
        runs.on("14 messages on a cut link are sent and lost", TWO,
            "link 0 1 0; begin 0 3; count 1 = 1; count 3 = 1; count 9 = 0; count 2 = 0");
        runs.on("14 messages to a site that is down are on their way until they are lost", TWO,
            "crash 1; link 0 1 2; begin 0 3; count 1 = 1; count 9 = 1; count 3 = 0; run 1; count 9 = 1",
            "count 3 = 0; run 1; count 9 = 0; count 3 = 1; count 2 = 0");
        runs.on("14 timers that are set again or off do not run out", TWO,
            "begin 0 3; run 50; count 4 = 0; count 2 = 5; count 1 = 5");
        runs.on("14 no sites", "count 5 = 0; count 6 = 1; count 7 = 1; count 8 = 10");
    }

    private static void delay(Runs runs) {
        runs.on("15 at first 1", EIGHT, "delay 0 7 = 1; delay 7 0 = 1; delay 3 4 = 1");
        runs.on("15 of a cut link 0", TWO, "link 1 0 0; delay 1 0 = 0; delay 0 1 = 1");
        runs.on("15 a site with itself", TWO, "!delay 0 0 = -1; !delay 1 1 = -1; part 3 5; delay 0 0 = -1");
        runs.on("15 past the last site", TWO,
            "!delay 0 2 = -1; !delay 2 0 = -1; !delay 0 max = -1; !delay max 0 = -1");
        runs.on("15 past the eighth", EIGHT, "delay 7 8 = -1; delay 8 7 = -1; delay 8 9 = -1");
        runs.on("15 before the first site", TWO,
            "!delay 0 -1 = -1; !delay -1 0 = -1; !delay 0 min = -1; !delay min 0 = -1");
        runs.on("15 no sites, and one", "delay 0 1 = -1; delay 0 0 = -1; site 1; delay 0 1 = -1; delay 0 0 = -1");
    }

    private static void weight(Runs runs) {
        runs.on("16 the first and the last state",
            "site 3; site 5; weight 0 = 8; begin 0 0; weight 0 = 5; weight 5 = 3; run 1; weight 5 = 8",
            "weight 0 = 0");
        runs.on("16 a state that there isn't",
            "site 3; site 5; !weight -1 = 0; !weight 6 = 0; !weight min = 0; !weight max = 0");
        runs.on("16 no sites", "weight 0 = 0; weight 5 = 0; weight -1 = 0");
        runs.on("16 sites that are down count",
            "site 3; site 5; crash 0; weight 0 = 8; begin 1 3; weight 0 = 3; crash 1; weight 1 = 5");
        runs.on("16 the largest", "site 9; site 9; site 9; site 9; site 9; site 9; site 9; site 9; weight 0 = 72");
    }

    private static void latest(Runs runs) {
        runs.on("17 what just inside", THREE,
            "begin 0 7; run 1; crash 1; recover 1; run 2; latest 0 = 5; latest 1 = 1; latest 2 = 2; latest 3 = 1",
            "latest 4 = 1");
        runs.on("17 another what", TWO,
            "!latest -1 = -1; !latest 5 = -1; !latest min = -1; !latest max = -1; begin 0 3; run 2",
            "!latest -1 = -1; !latest 5 = -1");
        runs.on("17 nothing came yet", TWO,
            "latest 0 = 0; latest 3 = 0; latest 4 = 0; begin 0 3; latest 0 = 0; run 0; latest 0 = 0; run 1",
            "latest 0 = 1");
        runs.on("17 what comes at a begin at once is no message", "site 1; begin 0 1; of 0 0 = 4; latest 0 = 0");
        runs.on("17 of a timer itself; without an attempt, also when it has one", TWO,
            "begin 0 3; run 2; crash 1; run 10; latest 0 = 11; latest 1 = 0; latest 2 = 0; latest 3 = 0",
            "latest 4 = 0; of 0 3 = 2");
        runs.on("17 lost ones are not told: the receiver is down", THREE,
            "begin 0 7; step = 1; crash 2; run 1 = 1; latest 0 = 2; latest 1 = 0; latest 2 = 1; reset; crash 1",
            "begin 0 0; run 1 = 1; latest 1 = 2");
        runs.on("17 lost ones are not told: the link is cut", THREE,
            "link 0 2 0; begin 0 7; run 1 = 1; latest 1 = 1; count 3 = 1");
        runs.on("17 messages that change nothing are told", TWO,
            "begin 0 1; crash 1; recover 1; of 1 0 = 5; run 1 = 1; latest 0 = 1; latest 1 = 1");
        runs.on("17 it stays when no more comes", TWO,
            "begin 0 0; run 1; latest 0 = 10; run 500 = 0; latest 0 = 10; latest 1 = 1; latest 2 = 0; crash 1",
            "latest 0 = 10; step = -1; latest 0 = 10");
    }

    private static void check(Runs runs) {
        runs.on("18 no sites, and no transaction", "check = 1; site 1; site 1; check = 1");
        runs.on("18 voted no, and none is COMMITTED", TWO,
            "begin 0 1; check = 1; run 1; all 0 = 1 5; check = 1; run 2; all 0 = 5 5; check = 1");
        runs.on("18 COMMITTED, and none is ABORTED", TWO,
            "begin 0 3; run 4; all 0 = 4 2; check = 1; run 1; all 0 = 4 4; check = 1");
        runs.on("18 bits of no site are no votes", TWO,
            "begin 0 3; run 5; check = 1; reset; begin 0 -1; run 5; all 0 = 4 4; check = 1");
        runs.on("18 one alone",
            "site 1; begin 0 1; of 0 0 = 4; check = 1; reset; check = 1; begin 0 0; of 0 0 = 5; check = 1");
        runs.on("18 asking does nothing", READY_TO_ABORT, "!check = 1");
    }
}
