import java.util.ArrayList;
import java.util.List;

/**
 * Runs of calls, told as lines, each on a new PostalAuction:
 *
 *   addLot 0 20 0 = 0        a call and the answer that is due
 *   addLot 0 20 0 = 0 ... 9  the same call ten times, its answers count up
 *   bid 0 0 20 1 0 *3        the same call three times, whatever it answers
 *   say 0=5,1=7              empties the text and types this one
 *
 * A number can be a sum or a difference, such as 1000000+5.
 *
 * After each call that reports an error or NONE, and that might have changed something, all that can be told must be as
 * it was before; and after the whole run it must be as if the calls that only tell had not been made.
 */
final class Script {
    private static final long MOST_SECONDS = 600;
    private static int wrong = 0;
    private static int answers = 0;

    private final String title;
    private final List<Call> calls = new ArrayList<>();
    private final List<Call> changes = new ArrayList<>();
    private final PostalAuction auction = new PostalAuction();
    private List<String> toldOfChanges = null;

    static {
        Thread guard = new Thread(Script::giveUp);
        guard.setDaemon(true);
        guard.start();
    }

    private Script(String title) {
        this.title = title;
    }

    static void run(String title, String lines) {
        Script script = new Script(title);
        for (String line : lines.split("\n")) {
            if (!line.isBlank()) {
                script.perform(line.strip());
            }
        }
        script.compareWithChangesAlone("the calls that only tell or are refused", script.calls);
    }

    /** The lines for each value, on an auction of its own; the value stands for "#". */
    static void each(String title, String values, String lines) {
        for (String value : values.split(" ")) {
            run(title + " [" + value + "]", lines.replace("#", value));
        }
    }

    /** Both ends of a range and the values beside them; outside of it also the outermost ones. */
    static void range(String title, int least, int most, String inside, String outside) {
        each(title, least + " " + (least + 1) + " " + (most - 1) + " " + most, inside);
        each(title, (least - 1) + " " + (most + 1) + " LEAST MOST", outside);
    }

    static void due(String what, long got, long want) {
        answers++;
        if (got != want) {
            wrong++;
            System.out.println(what + " answered " + got + ", due is " + want);
        }
    }

    /** The last call of each test's main. */
    static void end(String test) {
        System.out.println(test + ": " + answers + " answers, " + wrong + " wrong");
        if (wrong != 0) {
            System.exit(1);
        }
    }

    /** A call that does not end is a fault, too. */
    private static void giveUp() {
        try {
            Thread.sleep(MOST_SECONDS * 1000);
        } catch (InterruptedException interrupted) {
            return;
        }
        System.out.println("a call does not end");
        Runtime.getRuntime().halt(1);
    }

    private void perform(String line) {
        if (line.startsWith("say ")) {
            say(line.substring(4));
            return;
        }
        if (line.contains(" *")) {
            int at = line.indexOf(" *");
            for (int i = Integer.parseInt(line.substring(at + 2)); i > 0; i--) {
                make(parse(line.substring(0, at)));
            }
            return;
        }
        String[] parts = line.split(" = ");
        String[] range = parts[1].strip().split(" \\.\\.\\. ");
        long last = number(range[range.length - 1]);
        for (long want = number(range[0]); want <= last; want++) {
            Call call = parse(parts[0].strip());
            due(title + ": " + call + " (call " + calls.size() + ")", make(call), want);
        }
    }

    private void say(String text) {
        make(new Call("clearText"));
        for (char character : text.toCharArray()) {
            make(new Call("type", character));
        }
    }

    private long make(Call call) {
        calls.add(call);
        long answer = call.on(auction);
        if (call.onlyTells()) {
            return answer;
        }
        if (answer >= 0) {
            changes.add(call);
            toldOfChanges = null;
            return answer;
        }
        List<Call> withRefused = new ArrayList<>(changes);
        withRefused.add(call);
        compareWithChangesAlone(call.toString(), withRefused);
        return answer;
    }

    private void compareWithChangesAlone(String what, List<Call> run) {
        if (toldOfChanges == null) {
            toldOfChanges = Telling.after(changes);
        }
        String difference = Telling.difference(Telling.after(run), toldOfChanges);
        if (!difference.isEmpty()) {
            System.out.println(title + ": " + what + " changed something: " + difference);
        }
        due(title + ": changes by " + what, difference.isEmpty() ? 0 : 1, 0);
    }

    static Call parse(String words) {
        String[] parts = words.split(" +");
        Object[] arguments = new Object[parts.length - 1];
        for (int i = 0; i < arguments.length; i++) {
            arguments[i] = argument(parts[i + 1]);
        }
        return new Call(parts[0], arguments);
    }

    private static Object argument(String word) {
        if (word.equals("true") || word.equals("false")) {
            return word.equals("true");
        }
        if (word.startsWith("'")) {
            return word.charAt(1);
        }
        return (int) number(word);
    }

    private static long number(String word) {
        switch (word.strip()) {
            case "UNKNOWN": return PostalAuction.UNKNOWN;
            case "BAD_VALUE": return PostalAuction.BAD_VALUE;
            case "FULL": return PostalAuction.FULL;
            case "NOT_POSSIBLE": return PostalAuction.NOT_POSSIBLE;
            case "NONE": return PostalAuction.NONE;
            case "NO_VALUE": return PostalAuction.NO_VALUE;
            case "MOST": return Integer.MAX_VALUE;
            case "LEAST": return Integer.MIN_VALUE;
            default: return sum(word.strip());
        }
    }

    private static long sum(String word) {
        int at = Math.max(word.lastIndexOf('+'), word.lastIndexOf('-'));
        if (at <= 0) {
            return Long.parseLong(word);
        }
        long last = Long.parseLong(word.substring(at + 1));
        return sum(word.substring(0, at)) + (word.charAt(at) == '+' ? last : -last);
    }
}
