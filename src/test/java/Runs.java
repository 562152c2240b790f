import java.util.ArrayList;
import java.util.List;

/**
 * Runs of calls on a fresh object, each call with the answer that is due: "begin 0 7 = 1".
 * "all 0 = 4 4 5" asks of(i, 0) of every site i in turn; a call without "=" may answer anything.
 * "!link 0 1 21 = 0" is a call by which nothing is done: see {@link #nothingDone}.
 */
final class Runs {
    /** Ways to go on: what a refused call did unseen shows in one of them. */
    private static final String[] GOING_ON = {
        "step; step; run 7; step; run 40; run 100",
        "site 2; quorums 2 2; patience 9; begin 0 -1; begin 1 -1; run 3; step; run 30",
        "recover 0; crash 1; run 2; recover 1; run 25; reset; begin 0 -2; run 1; reset; begin 0 -1; run 9",
    };

    private final String name;
    private int calls;
    private int wrong;

    Runs(String name) {
        this.name = name;
    }

    /** Rows hold calls that are parted by ';'. */
    void on(String title, String... rows) {
        CommitSites x = new CommitSites();
        List<String> before = new ArrayList<>();
        for (String call : callsOf(String.join(";", rows))) {
            if (call.startsWith("!")) {
                nothingDone(title, before, call.substring(1));
            }
            String plain = call.startsWith("!") ? call.substring(1) : call;
            call(x, title, plain);
            before.add(plain);
        }
    }

    void due(String what, long got, long want) {
        calls++;
        if (got != want) {
            wrong++;
            System.out.println(name + ": " + what + " answered " + got + ", due is " + want);
        }
    }

    void end() {
        System.out.println(name + ": " + calls + " answers, " + wrong + " wrong");
        if (wrong != 0 || calls == 0) {
            System.exit(1);
        }
    }

    /** All that one object can be asked. */
    static List<Integer> seen(CommitSites x) {
        List<Integer> seen = new ArrayList<>();
        for (int i = 0; i < 8; i++) {
            for (int what = 0; what < 7; what++) {
                seen.add(x.of(i, what));
            }
            for (int j = 0; j < 8; j++) {
                seen.add(x.delay(i, j));
            }
        }
        for (int what = 0; what < 10; what++) {
            seen.add(x.count(what));
            seen.add(x.weight(what));
            seen.add(x.latest(what));
        }
        seen.add(x.check());
        return seen;
    }

    /** An object with the call and one without it can't be told apart, now and however they go on. */
    private void nothingDone(String title, List<String> before, String call) {
        String what = title + ": nothing is done by " + call;
        due(what, seenAfter(before, call, "").equals(seenAfter(before, "", "")) ? 1 : 0, 1);
        for (String on : GOING_ON) {
            boolean same = seenAfter(before, call, on).equals(seenAfter(before, "", on));
            due(what + ", and then " + on, same ? 1 : 0, 1);
        }
    }

    /** What a new object shows at last, and all that it answered while it went on. */
    private static List<Integer> seenAfter(List<String> before, String call, String goingOn) {
        CommitSites x = new CommitSites();
        List<String> made = new ArrayList<>(before);
        made.addAll(callsOf(call));
        for (String one : made) {
            if (!one.startsWith("all ")) {
                answer(x, one);
            }
        }
        List<Integer> answers = new ArrayList<>();
        for (String one : callsOf(goingOn)) {
            answers.add(answer(x, one));
        }
        answers.addAll(seen(x));
        return answers;
    }

    private static List<String> callsOf(String row) {
        List<String> calls = new ArrayList<>();
        for (String call : row.split(";")) {
            if (!call.isBlank()) {
                calls.add(call.strip());
            }
        }
        return calls;
    }

    private void call(CommitSites x, String title, String text) {
        String[] sides = text.split("=");
        List<Integer> wants = sides.length < 2 ? List.of() : numbers(sides[1].strip().split(" +"), 0);
        if (text.startsWith("all ")) {
            int what = numbers(sides[0].strip().split(" +"), 1).get(0);
            for (int i = 0; i < wants.size(); i++) {
                due(title + ": of " + i + " " + what, x.of(i, what), wants.get(i));
            }
            return;
        }
        int got = answer(x, text);
        if (!wants.isEmpty()) {
            due(title + ": " + sides[0].strip(), got, wants.get(0));
        }
    }

    private static List<Integer> numbers(String[] words, int first) {
        List<Integer> numbers = new ArrayList<>();
        for (int k = first; k < words.length; k++) {
            switch (words[k]) {
                case "min" -> numbers.add(Integer.MIN_VALUE);
                case "max" -> numbers.add(Integer.MAX_VALUE);
                default -> numbers.add(Integer.parseInt(words[k]));
            }
        }
        return numbers;
    }

    private static int answer(CommitSites x, String call) {
        String[] words = call.split("=")[0].strip().split(" +");
        return answer(x, words[0], numbers(words, 1));
    }

    static int answer(CommitSites x, String method, List<Integer> args) {
        int a = args.size() > 0 ? args.get(0) : 0;
        int b = args.size() > 1 ? args.get(1) : 0;
        int c = args.size() > 2 ? args.get(2) : 0;
        return switch (method) {
            case "site" -> x.site(a);
            case "quorums" -> x.quorums(a, b);
            case "link" -> x.link(a, b, c);
            case "part" -> x.part(a, b);
            case "patience" -> x.patience(a);
            case "begin" -> x.begin(a, b);
            case "crash" -> x.crash(a);
            case "recover" -> x.recover(a);
            case "run" -> x.run(a);
            case "step" -> x.step();
            case "reset" -> x.reset();
            case "of" -> x.of(a, b);
            case "count" -> x.count(a);
            case "delay" -> x.delay(a, b);
            case "weight" -> x.weight(a);
            case "latest" -> x.latest(a);
            case "check" -> x.check();
            default -> throw new IllegalArgumentException("no method " + method);
        };
    }
}
