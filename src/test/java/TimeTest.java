/** Promises 10 and 11, and the order in which things come. */
public final class TimeTest {
    public static void main(String[] args) {
        Runs runs = new Runs("TimeTest");
        run(runs);
        step(runs);
        order(runs);
        runs.end();
    }

    private static void run(Runs runs) {
        runs.on("10 edges",
            "run -1 = -1; run 501 = -1; run max = -1; run min = -1; count 0 = 0; run 0 = 0; run 500 = 0",
            "count 0 = 500; run 500; run 500; run 500; run 500; run 500; run 500; run 499 = 0",
            "count 0 = 3999; run 2 = -1; run 500 = -1; count 0 = 3999; run 1 = 0; count 0 = 4000",
            "run 1 = -1; run 0 = 0; count 0 = 4000");
        runs.on("10 counts what came and ran out, not what is lost",
            "site 1; site 1; site 1; crash 2; begin 0 7; run 1 = 1; count 2 = 1; count 3 = 1; run 8 = 1",
            "count 2 = 2; run 1 = 1; count 4 = 1; count 1 = 5; count 9 = 2; run 500 = 1; count 3 = 2",
            "count 0 = 510; count 2 = 3; count 4 = 1");
        runs.on("10 what comes at the end comes, what comes later does not",
            "site 1; site 1; link 0 1 7; begin 0 3; run 6 = 0; of 1 0 = 0; run 1 = 1; of 1 0 = 1; of 1 6 = 7");
        runs.on("10 no ticks, with what is left of this time",
            "site 1; site 1; site 1; begin 0 7; step = 1; of 2 0 = 0; run 0 = 1; all 0 = 1 1 1; count 0 = 1",
            "run 0 = 0");
        runs.on("10 nothing is done when time would be more than 4000",
            "site 1; run 500; run 500; run 500; run 500; run 500; run 500; run 500; run 495 = 0",
            "site 1 = 1; begin 0 3 = 1; run 6 = -1; count 0 = 3995; count 2 = 0; of 1 0 = 0; run 5 = 5",
            "all 0 = 4 4; all 6 = 3999 4000");
    }

    private static void step(Runs runs) {
        runs.on("11 one by one",
            "site 1; site 1; begin 0 3; step = 1; latest 0 = 1; count 0 = 1; step = 2; latest 0 = 2",
            "step = 3; latest 0 = 6; step = 4; latest 0 = 8; step = 5; latest 0 = 9; step = -1; count 0 = 5",
            "step = -1; count 0 = 5; count 2 = 5");
        runs.on("11 what is lost before it",
            "site 1; site 1; site 1; crash 1; begin 0 7; step = 1; latest 1 = 2; count 3 = 1; count 9 = 1",
            "count 2 = 1");
        runs.on("11 what is lost after it is still on its way",
            "site 1; site 1; site 1; crash 2; begin 0 7; step = 1; latest 1 = 1; count 3 = 0; count 9 = 2",
            "step = 2; latest 0 = 2; count 3 = 1; count 9 = 0");
        runs.on("11 a timer, after what is lost",
            "site 1; site 1; crash 1; begin 0 3; step = 10; latest 0 = 11; count 3 = 1; count 9 = 1",
            "step = -1; count 0 = 11; count 3 = 2; count 9 = 0; latest 0 = 11");
        runs.on("11 up to time 4000, and that too",
            "site 1; site 1; run 500; run 500; run 500; run 500; run 500; run 500; run 500; run 490",
            "link 0 1 0; begin 0 3; of 0 5 = 4000; step = 4000; of 0 0 = 5; of 0 6 = 4000; step = -1");
        runs.on("11 not beyond; what is lost by then is lost, and time goes there",
            "site 1; site 1; site 1; run 500; run 500; run 500; run 500; run 500; run 500; run 500; run 495",
            "crash 1; crash 2; link 0 1 2; link 0 2 4; begin 0 7; of 0 5 = 4005; step = -1; count 0 = 3999",
            "count 3 = 2; step = -1; count 0 = 3999; of 0 0 = 1; of 0 5 = 4005; run 1 = 0; step = -1",
            "count 0 = 4000; count 4 = 0");
        runs.on("11 what would be lost beyond stays on its way",
            "site 1; site 1; site 1; run 500; run 500; run 500; run 500; run 500; run 500; run 500; run 495",
            "crash 1; crash 2; link 0 1 6; link 0 2 5; begin 0 7; step = -1; count 0 = 4000; count 3 = 1",
            "count 9 = 1; step = -1; count 9 = 1; recover 1 = 1; step = -1; of 1 0 = 5");
        runs.on("11 time stays when nothing is to come", "site 1; run 7; step = -1; count 0 = 7");
    }

    private static void order(Runs runs) {
        runs.on("at one time, a timer that was set before the message was sent",
            "site 1; site 1; patience 5; link 0 1 2; link 1 0 3; begin 0 3; run 4 = 1; step = 5",
            "latest 0 = 11; of 0 0 = 5; step = 5; latest 0 = 2; of 0 0 = 5; count 4 = 1");
        runs.on("at one time, a message that was sent before the timer was set",
            "site 1; site 1; site 1; patience 5; begin 0 5; run 1 = 2; link 0 2 6; run 1 = 2; of 0 0 = 5",
            "run 1 = 1; link 2 0 0; link 2 1 0; crash 2; recover 2; of 2 5 = 8; step = 8; latest 0 = 10",
            "latest 1 = 2; of 2 0 = 5; count 4 = 0; step = -1");
        runs.on("at one time, in the order in which they were sent, not of numbers",
            "site 1; site 1; site 1; link 0 1 2; link 1 0 1; link 2 0 2; begin 0 7; run 2 = 2; step = 3",
            "latest 2 = 2; step = 3; latest 2 = 1");
        runs.on("at one time, timers in the order in which they were set",
            "site 1; site 1; site 1; patience 5; link 2 0 3; link 2 1 2; begin 2 7; run 3 = 3; crash 2",
            "all 5 = 8 8 -1; step = 8; latest 0 = 11; latest 1 = 1; step = 8; latest 0 = 11; latest 1 = 0");
        runs.on("a timer is set instead of what it was set to",
            "site 1; site 1; site 1; begin 0 7; run 2 = 4; all 5 = 12 12 13; run 1 = 2; all 5 = 12 14 15",
            "crash 0; run 10 = 0; count 0 = 13; count 4 = 0; run 1 = 1; count 4 = 1");
    }
}
