import java.util.ArrayList;
import java.util.List;

/**
 * Runs of calls on a fresh object, each call with the answer that is due: "begin 0 7 = 1".
 * "all 0 = 4 4 5" asks of(i, 0) of every site i in turn; a call without "=" may answer anything.
 */
final class Runs {
    private final String name;
    private int calls;
    private int wrong;

    Runs(String name) {
        this.name = name;
    }

    /** Rows hold calls that are parted by ';'. */
    void on(String title, String... rows) {
        CommitSites x = new CommitSites();
        for (String row : rows) {
            for (String call : row.split(";")) {
                if (!call.isBlank()) {
                    call(x, title, call.strip());
                }
            }
        }
    }

    void due(String what, long got, long want) {
        calls++;
        if (got != want) {
            wrong++;
            System.out.println(name + ": " + what + " answered " + got + ", due is " + want);
        }
    }

    void end() {
        System.out.println(name + ": " + calls + " answers, " + wrong + " wrong");
        if (wrong != 0 || calls == 0) {
            System.exit(1);
        }
    }

    private void call(CommitSites x, String title, String text) {
        String[] sides = text.split("=");
        String[] words = sides[0].strip().split(" +");
        List<Integer> args = numbers(words, 1);
        List<Integer> wants = sides.length < 2 ? List.of() : numbers(sides[1].strip().split(" +"), 0);
        if (words[0].equals("all")) {
            for (int i = 0; i < wants.size(); i++) {
                due(title + ": of " + i + " " + args.get(0), x.of(i, args.get(0)), wants.get(i));
            }
            return;
        }
        int got = answer(x, words[0], args);
        if (!wants.isEmpty()) {
            due(title + ": " + sides[0].strip(), got, wants.get(0));
        }
    }

    private static List<Integer> numbers(String[] words, int first) {
        List<Integer> numbers = new ArrayList<>();
        for (int k = first; k < words.length; k++) {
            switch (words[k]) {
                case "min" -> numbers.add(Integer.MIN_VALUE);
                case "max" -> numbers.add(Integer.MAX_VALUE);
                default -> numbers.add(Integer.parseInt(words[k]));
            }
        }
        return numbers;
    }

    static int answer(CommitSites x, String method, List<Integer> args) {
        int a = args.size() > 0 ? args.get(0) : 0;
        int b = args.size() > 1 ? args.get(1) : 0;
        int c = args.size() > 2 ? args.get(2) : 0;
        return switch (method) {
            case "site" -> x.site(a);
            case "quorums" -> x.quorums(a, b);
            case "link" -> x.link(a, b, c);
            case "part" -> x.part(a, b);
            case "patience" -> x.patience(a);
            case "begin" -> x.begin(a, b);
            case "crash" -> x.crash(a);
            case "recover" -> x.recover(a);
            case "run" -> x.run(a);
            case "step" -> x.step();
            case "reset" -> x.reset();
            case "of" -> x.of(a, b);
            case "count" -> x.count(a);
            case "delay" -> x.delay(a, b);
            case "weight" -> x.weight(a);
            case "latest" -> x.latest(a);
            case "check" -> x.check();
            default -> throw new IllegalArgumentException("no method " + method);
        };
    }
}
