import java.lang.reflect.InvocationTargetException;
import java.lang.reflect.Method;
import java.util.ArrayList;
import java.util.List;

/**
 * Runs of calls, told as lines, each on a new PostalAuction:
 *
 *   addLot 0 20 0 = 0        a call and the answer that is due
 *   addLot 0 20 0 = 0 ... 9  the same call ten times, its answers count up
 *   bid 0 0 20 1 0 *3        the same call three times, whatever it answers
 *   say 0=5,1=7              empties the text and types this one
 *
 * After each run it is told again without the calls that reported an error or NONE and those that only tell;
 * whatever can be told must be the same then.
 */
final class Script {
    private static final int MOST_CALLS = 512;
    private static int wrong = 0;
    private static int answers = 0;

    private final String title;
    private final List<Call> calls = new ArrayList<>();
    private final List<Call> changes = new ArrayList<>();
    private final PostalAuction auction = new PostalAuction();

    private Script(String title) {
        this.title = title;
    }

    /** A call of the face, which can be made on an auction or on a model of it. */
    record Call(String name, Object... arguments) {
        long on(Object target) {
            for (Method method : target.getClass().getDeclaredMethods()) {
                if (method.getName().equals(name) && (method.getModifiers() & 1) == 1) {
                    return answerOf(method, target);
                }
            }
            throw new IllegalStateException("no method " + name);
        }

        private long answerOf(Method method, Object target) {
            try {
                return ((Number) method.invoke(target, arguments)).longValue();
            } catch (InvocationTargetException thrown) {
                throw new IllegalStateException(this + " throws", thrown.getCause());
            } catch (IllegalAccessException hidden) {
                throw new IllegalStateException(hidden);
            }
        }

        boolean onlyTells() {
            return List.of("valid", "sale", "ranked", "fate", "needed", "lot", "bidOf", "bidder", "seller", "account",
                    "count").contains(name);
        }

        @Override
        public String toString() {
            List<String> texts = new ArrayList<>();
            for (Object argument : arguments) {
                texts.add(argument instanceof Character c ? "(char) " + (int) c : argument.toString());
            }
            return name + "(" + String.join(", ", texts) + ")";
        }
    }

    static void run(String title, String lines) {
        Script script = new Script(title);
        for (String line : lines.split("\n")) {
            if (!line.isBlank()) {
                script.perform(line.strip());
            }
        }
        script.compareWithChangesAlone();
    }

    static void due(String what, long got, long want) {
        answers++;
        if (got != want) {
            wrong++;
            System.out.println(what + " answered " + got + ", due is " + want);
        }
    }

    /** The last call of each test's main. */
    static void end(String test) {
        System.out.println(test + ": " + answers + " answers, " + wrong + " wrong");
        if (wrong != 0) {
            System.exit(1);
        }
    }

    private void perform(String line) {
        if (line.startsWith("say ")) {
            say(line.substring(4));
            return;
        }
        if (line.contains(" *")) {
            int at = line.indexOf(" *");
            for (int i = Integer.parseInt(line.substring(at + 2)); i > 0; i--) {
                make(parse(line.substring(0, at)));
            }
            return;
        }
        String[] parts = line.split(" = ");
        String[] range = parts[1].strip().split(" \\.\\.\\. ");
        long last = number(range[range.length - 1]);
        for (long want = number(range[0]); want <= last; want++) {
            Call call = parse(parts[0].strip());
            due(title + ": " + call + " (call " + calls.size() + ")", make(call), want);
        }
    }

    private void say(String text) {
        make(new Call("clearText"));
        for (char character : text.toCharArray()) {
            make(new Call("type", character));
        }
    }

    private long make(Call call) {
        calls.add(call);
        long answer = call.on(auction);
        if (answer >= 0 && !call.onlyTells()) {
            changes.add(call);
        }
        return answer;
    }

    private static Call parse(String words) {
        String[] parts = words.split(" +");
        Object[] arguments = new Object[parts.length - 1];
        for (int i = 0; i < arguments.length; i++) {
            arguments[i] = argument(parts[i + 1]);
        }
        return new Call(parts[0], arguments);
    }

    private static Object argument(String word) {
        if (word.equals("true") || word.equals("false")) {
            return word.equals("true");
        }
        if (word.startsWith("'")) {
            return word.charAt(1);
        }
        return (int) number(word);
    }

    private static long number(String word) {
        switch (word.strip()) {
            case "UNKNOWN": return PostalAuction.UNKNOWN;
            case "BAD_VALUE": return PostalAuction.BAD_VALUE;
            case "FULL": return PostalAuction.FULL;
            case "NOT_POSSIBLE": return PostalAuction.NOT_POSSIBLE;
            case "NONE": return PostalAuction.NONE;
            case "NO_VALUE": return PostalAuction.NO_VALUE;
            case "MOST": return Integer.MAX_VALUE;
            case "LEAST": return Integer.MIN_VALUE;
            default: return Long.parseLong(word.strip());
        }
    }

    private void compareWithChangesAlone() {
        compareTellings(allTellings());
        compareTellings(letterAndUndos());
    }

    private void compareTellings(List<Call> tellings) {
        List<Long> told = answersAfter(calls, tellings);
        List<Long> due = answersAfter(changes, tellings);
        for (int i = 0; i < tellings.size(); i++) {
            due(title + ", at its end: " + tellings.get(i), told.get(i), due.get(i));
        }
    }

    private List<Call> allTellings() {
        List<Call> tellings = new ArrayList<>();
        addTellings(tellings, "count", -1, 14);
        for (int lot = 0; lot < auction.count(0); lot++) {
            addTellings(tellings, "lot", lot, 6);
            addTellings(tellings, "sale", lot, 6);
            addTellings(tellings, "ranked", lot, 3);
        }
        for (int bid = 0; bid < auction.count(2); bid++) {
            addTellings(tellings, "bidOf", bid, 7);
            tellings.add(new Call("fate", bid));
        }
        for (int bidder = 0; bidder < auction.count(1); bidder++) {
            addTellings(tellings, "bidder", bidder, 4);
        }
        for (int seller = 0; seller < 5; seller++) {
            addTellings(tellings, "seller", seller, 4);
        }
        addTellings(tellings, "account", -1, 7);
        for (int amount = 0; amount < 100; amount += 9) {
            addTellings(tellings, "valid", amount, 3);
        }
        return tellings;
    }

    private static List<Call> letterAndUndos() {
        List<Call> tellings = new ArrayList<>();
        tellings.add(new Call("letter", 0, 0));
        for (int i = 0; i < 5; i++) {
            tellings.add(new Call("undo"));
            addTellings(tellings, "count", -1, 14);
        }
        return tellings;
    }

    private static void addTellings(List<Call> tellings, String name, int of, int whats) {
        for (int what = 0; what < whats; what++) {
            tellings.add(of < 0 ? new Call(name, what) : new Call(name, of, what));
        }
    }

    /** An object is made anew before it would come to its last call; letters and undos are few enough for one. */
    private static List<Long> answersAfter(List<Call> run, List<Call> tellings) {
        List<Long> told = new ArrayList<>();
        PostalAuction auction = null;
        int made = MOST_CALLS;
        for (Call telling : tellings) {
            if (made >= MOST_CALLS) {
                auction = new PostalAuction();
                for (Call call : run) {
                    call.on(auction);
                }
                made = run.size();
            }
            told.add(telling.on(auction));
            made++;
        }
        return told;
    }
}
